/-! texts: the states of its run, and what is true of them -/
section TXF
def tan0 : Abs := mkA [] [] [[], [], [], [], [], [], [], []] 0
def tgn0 : Gst := (tan0, [], kpO none none, [])
def tgn1 : Gst := (tan0, [], kpO none none, [97])
def tgn2 : Gst := (tan0, [], kpO none none, [97, 61, 49, 48, 48])
def tgn3 : Gst := (tan0, [], kpO none none, [97, 61, 48, 53])
def tgn4 : Gst := (tan0, [], kpO none none, [101])
def tgn5 : Gst := (tan0, [], kpO none none, [97, 33])
def tgn6 : Gst := (tan0, [], kpO none none, [40, 97, 63])
def tgn7 : Gst := (tan0, [], kpO none none, [97, 63, 41])
def tgn8 : Gst := (tan0, [], kpO none none, [97, 63, 98])
def tgn9 : Gst := (tan0, [], kpO none none, [33])
def tgn10 : Gst := (tan0, [], kpO none none, [97, 61, 98, 53])
def tgn11 : Gst := (tan0, [], kpO none none, [97, 61, 53, 98])
def tgn12 : Gst := (tan0, [], kpO none none, [33, 40, 97, 63, 124, 98, 60, 57, 41, 38, 99, 61, 100])
def tgn13 : Gst := (tan0, [], kpO none none, [97, 63, 38, 38])
def tgn14 : Gst := (tan0, [], kpO none none, [40, 41])
def tgn15 : Gst := (tan0, [], kpO none none, [40, 40, 97, 61, 98, 41, 41])
def tgn16 : Gst := (tan0, [], kpO none none, [97, 61, 57, 57, 124])
def tgn17 : Gst := (tan0, [], kpO none none, [33, 33, 100, 62, 48])
def tgn18 : Gst := (tan0, [], kpO none none, [97, 63, 63])
def tgn19 : Gst := (tan0, [], kpO none none, [40, 97, 63, 124, 98, 63, 41, 41])
def tgn20 : Gst := (tan0, [], kpO none none, [97, 61, 101])
def tgn21 : Gst := (tan0, [], kpO none none, [97, 63, 38, 33])
def tgn22 : Gst := (tan0, [], kpO none none, [124, 97, 63])
def tgn23 : Gst := (tan0, [], kpO none none, [97, 60, 98, 38, 99, 62, 100, 124, 100, 63])
def tgn24 : Gst := (tan0, [], kpO none none, [33, 33])
def tgn25 : Gst := (tan0, [], kpO none none, [33, 33, 33])
def tgn26 : Gst := (tan0, [], kpO none none, [33, 33, 33, 33])
def tgn27 : Gst := (tan0, [], kpO none none, [33, 33, 33, 33, 33])
def tgn28 : Gst := (tan0, [], kpO none none, [33, 33, 33, 33, 33, 33])
def tgn29 : Gst := (tan0, [], kpO none none, [33, 33, 33, 33, 33, 33, 33])
def tgn30 : Gst := (tan0, [], kpO none none, [33, 33, 33, 33, 33, 33, 33, 33])
def tgn31 : Gst := (tan0, [], kpO none none, [33, 33, 33, 33, 33, 33, 33, 33, 33])
def tgn32 : Gst := (tan0, [], kpO none none, [33, 33, 33, 33, 33, 33, 33, 33, 33, 33])
def tgn33 : Gst := (tan0, [], kpO none none, [33, 33, 33, 33, 33, 33, 33, 33, 33, 33, 33])
def tgn34 : Gst := (tan0, [], kpO none none, [33, 33, 33, 33, 33, 33, 33, 33, 33, 33, 33, 33])
def tgn35 : Gst := (tan0, [], kpO none none, [33, 33, 33, 33, 33, 33, 33, 33, 33, 33, 33, 33, 33])
def tgn36 : Gst := (tan0, [], kpO none none, [33, 33, 33, 33, 33, 33, 33, 33, 33, 33, 33, 33, 33, 33])
def tgn37 : Gst := (tan0, [], kpO none none, [33, 33, 33, 33, 33, 33, 33, 33, 33, 33, 33, 33, 33, 33, 33])
def tgn38 : Gst := (tan0, [], kpO none none, [33, 33, 33, 33, 33, 33, 33, 33, 33, 33, 33, 33, 33, 33, 33, 33])
def tgn39 : Gst := (tan0, [], kpO none none, [33, 33, 33, 33, 33, 33, 33, 33, 33, 33, 33, 33, 33, 33, 33, 33, 33])
def tgn40 : Gst := (tan0, [], kpO none none, [33, 33, 33, 33, 33, 33, 33, 33, 33, 33, 33, 33, 33, 33, 33, 33, 33, 33])
def tgn41 : Gst := (tan0, [], kpO none none, [33, 33, 33, 33, 33, 33, 33, 33, 33, 33, 33, 33, 33, 33, 33, 33, 33, 33, 33])
def tgn42 : Gst := (tan0, [], kpO none none, [33, 33, 33, 33, 33, 33, 33, 33, 33, 33, 33, 33, 33, 33, 33, 33, 33, 33, 33, 33])
def tgn43 : Gst := (tan0, [], kpO none none, [33, 33, 33, 33, 33, 33, 33, 33, 33, 33, 33, 33, 33, 33, 33, 33, 33, 33, 33, 33, 33])
def tgn44 : Gst := (tan0, [], kpO none none, [33, 33, 33, 33, 33, 33, 33, 33, 33, 33, 33, 33, 33, 33, 33, 33, 33, 33, 33, 33, 33, 33])
def tgn45 : Gst := (tan0, [], kpO none none, [33, 33, 33, 33, 33, 33, 33, 33, 33, 33, 33, 33, 33, 33, 33, 33, 33, 33, 33, 33, 33, 33, 33])
def tgn46 : Gst := (tan0, [], kpO none none, [33, 33, 33, 33, 33, 33, 33, 33, 33, 33, 33, 33, 33, 33, 33, 33, 33, 33, 33, 33, 33, 33, 33, 33])
def tgn47 : Gst := (tan0, [], kpO none none, [33, 33, 33, 33, 33, 33, 33, 33, 33, 33, 33, 33, 33, 33, 33, 33, 33, 33, 33, 33, 33, 33, 33, 33, 33])
def tgn48 : Gst := (tan0, [], kpO none none, [33, 33, 33, 33, 33, 33, 33, 33, 33, 33, 33, 33, 33, 33, 33, 33, 33, 33, 33, 33, 33, 33, 33, 33, 33, 33])
def tgn49 : Gst := (tan0, [], kpO none none, [33, 33, 33, 33, 33, 33, 33, 33, 33, 33, 33, 33, 33, 33, 33, 33, 33, 33, 33, 33, 33, 33, 33, 33, 33, 33, 33])
def tgn50 : Gst := (tan0, [], kpO none none, [33, 33, 33, 33, 33, 33, 33, 33, 33, 33, 33, 33, 33, 33, 33, 33, 33, 33, 33, 33, 33, 33, 33, 33, 33, 33, 33, 33])
def tgn51 : Gst := (tan0, [], kpO none none, [33, 33, 33, 33, 33, 33, 33, 33, 33, 33, 33, 33, 33, 33, 33, 33, 33, 33, 33, 33, 33, 33, 33, 33, 33, 33, 33, 33, 33])
def tgn52 : Gst := (tan0, [], kpO none none, [33, 33, 33, 33, 33, 33, 33, 33, 33, 33, 33, 33, 33, 33, 33, 33, 33, 33, 33, 33, 33, 33, 33, 33, 33, 33, 33, 33, 33, 33])
def tgn53 : Gst := (tan0, [], kpO none none, [33, 33, 33, 33, 33, 33, 33, 33, 33, 33, 33, 33, 33, 33, 33, 33, 33, 33, 33, 33, 33, 33, 33, 33, 33, 33, 33, 33, 33, 33, 33])
def tgn54 : Gst := (tan0, [], kpO none none, [33, 33, 33, 33, 33, 33, 33, 33, 33, 33, 33, 33, 33, 33, 33, 33, 33, 33, 33, 33, 33, 33, 33, 33, 33, 33, 33, 33, 33, 33, 33, 33])
def tgn55 : Gst := (tan0, [], kpO none none, [33, 33, 33, 33, 33, 33, 33, 33, 33, 33, 33, 33, 33, 33, 33, 33, 33, 33, 33, 33, 33, 33, 33, 33, 33, 33, 33, 33, 33, 33, 33, 33, 33])
def tgn56 : Gst := (tan0, [], kpO none none, [33, 33, 33, 33, 33, 33, 33, 33, 33, 33, 33, 33, 33, 33, 33, 33, 33, 33, 33, 33, 33, 33, 33, 33, 33, 33, 33, 33, 33, 33, 33, 33, 33, 33])
def tgn57 : Gst := (tan0, [], kpO none none, [33, 33, 33, 33, 33, 33, 33, 33, 33, 33, 33, 33, 33, 33, 33, 33, 33, 33, 33, 33, 33, 33, 33, 33, 33, 33, 33, 33, 33, 33, 33, 33, 33, 33, 33])
def tgn58 : Gst := (tan0, [], kpO none none, [33, 33, 33, 33, 33, 33, 33, 33, 33, 33, 33, 33, 33, 33, 33, 33, 33, 33, 33, 33, 33, 33, 33, 33, 33, 33, 33, 33, 33, 33, 33, 33, 33, 33, 33, 33])
def tgn59 : Gst := (tan0, [], kpO none none, [33, 33, 33, 33, 33, 33, 33, 33, 33, 33, 33, 33, 33, 33, 33, 33, 33, 33, 33, 33, 33, 33, 33, 33, 33, 33, 33, 33, 33, 33, 33, 33, 33, 33, 33, 33, 33])
def tgn60 : Gst := (tan0, [], kpO none none, [33, 33, 33, 33, 33, 33, 33, 33, 33, 33, 33, 33, 33, 33, 33, 33, 33, 33, 33, 33, 33, 33, 33, 33, 33, 33, 33, 33, 33, 33, 33, 33, 33, 33, 33, 33, 33, 33])
def tgn61 : Gst := (tan0, [], kpO none none, [33, 33, 33, 33, 33, 33, 33, 33, 33, 33, 33, 33, 33, 33, 33, 33, 33, 33, 33, 33, 33, 33, 33, 33, 33, 33, 33, 33, 33, 33, 33, 33, 33, 33, 33, 33, 33, 33, 33])
def tgn62 : Gst := (tan0, [], kpO none none, [33, 33, 33, 33, 33, 33, 33, 33, 33, 33, 33, 33, 33, 33, 33, 33, 33, 33, 33, 33, 33, 33, 33, 33, 33, 33, 33, 33, 33, 33, 33, 33, 33, 33, 33, 33, 33, 33, 33, 33])
def tgn63 : Gst := (tan0, [], kpO none none, [33, 33, 33, 33, 33, 33, 33, 33, 33, 33, 33, 33, 33, 33, 33, 33, 33, 33, 33, 33, 33, 33, 33, 33, 33, 33, 33, 33, 33, 33, 33, 33, 33, 33, 33, 33, 33, 33, 33, 33, 33])
def tgn64 : Gst := (tan0, [], kpO none none, [33, 33, 33, 33, 33, 33, 33, 33, 33, 33, 33, 33, 33, 33, 33, 33, 33, 33, 33, 33, 33, 33, 33, 33, 33, 33, 33, 33, 33, 33, 33, 33, 33, 33, 33, 33, 33, 33, 33, 33, 33, 33])
def tgn65 : Gst := (tan0, [], kpO none none, [33, 33, 33, 33, 33, 33, 33, 33, 33, 33, 33, 33, 33, 33, 33, 33, 33, 33, 33, 33, 33, 33, 33, 33, 33, 33, 33, 33, 33, 33, 33, 33, 33, 33, 33, 33, 33, 33, 33, 33, 33, 33, 33])
def tgn66 : Gst := (tan0, [], kpO none none, [33, 33, 33, 33, 33, 33, 33, 33, 33, 33, 33, 33, 33, 33, 33, 33, 33, 33, 33, 33, 33, 33, 33, 33, 33, 33, 33, 33, 33, 33, 33, 33, 33, 33, 33, 33, 33, 33, 33, 33, 33, 33, 33, 33])
def tgn67 : Gst := (tan0, [], kpO none none, [33, 33, 33, 33, 33, 33, 33, 33, 33, 33, 33, 33, 33, 33, 33, 33, 33, 33, 33, 33, 33, 33, 33, 33, 33, 33, 33, 33, 33, 33, 33, 33, 33, 33, 33, 33, 33, 33, 33, 33, 33, 33, 33, 33, 33])
def tgn68 : Gst := (tan0, [], kpO none none, [33, 33, 33, 33, 33, 33, 33, 33, 33, 33, 33, 33, 33, 33, 33, 33, 33, 33, 33, 33, 33, 33, 33, 33, 33, 33, 33, 33, 33, 33, 33, 33, 33, 33, 33, 33, 33, 33, 33, 33, 33, 33, 33, 33, 33, 33])
def tgn69 : Gst := (tan0, [], kpO none none, [33, 33, 33, 33, 33, 33, 33, 33, 33, 33, 33, 33, 33, 33, 33, 33, 33, 33, 33, 33, 33, 33, 33, 33, 33, 33, 33, 33, 33, 33, 33, 33, 33, 33, 33, 33, 33, 33, 33, 33, 33, 33, 33, 33, 33, 33, 33])
def tgn70 : Gst := (tan0, [], kpO none none, [33, 33, 33, 33, 33, 33, 33, 33, 33, 33, 33, 33, 33, 33, 33, 33, 33, 33, 33, 33, 33, 33, 33, 33, 33, 33, 33, 33, 33, 33, 33, 33, 33, 33, 33, 33, 33, 33, 33, 33, 33, 33, 33, 33, 33, 33, 33, 33])
def tgn71 : Gst := (tan0, [], kpO none none, [33, 33, 33, 33, 33, 33, 33, 33, 33, 33, 33, 33, 33, 33, 33, 33, 33, 33, 33, 33, 33, 33, 33, 33, 33, 33, 33, 33, 33, 33, 33, 33, 33, 33, 33, 33, 33, 33, 33, 33, 33, 33, 33, 33, 33, 33, 33, 33, 33])
def tgn72 : Gst := (tan0, [], kpO none none, [33, 33, 33, 33, 33, 33, 33, 33, 33, 33, 33, 33, 33, 33, 33, 33, 33, 33, 33, 33, 33, 33, 33, 33, 33, 33, 33, 33, 33, 33, 33, 33, 33, 33, 33, 33, 33, 33, 33, 33, 33, 33, 33, 33, 33, 33, 33, 33, 33, 33])
def tgn73 : Gst := (tan0, [], kpO none none, [33, 33, 33, 33, 33, 33, 33, 33, 33, 33, 33, 33, 33, 33, 33, 33, 33, 33, 33, 33, 33, 33, 33, 33, 33, 33, 33, 33, 33, 33, 33, 33, 33, 33, 33, 33, 33, 33, 33, 33, 33, 33, 33, 33, 33, 33, 33, 33, 33, 33, 33])
def tgn74 : Gst := (tan0, [], kpO none none, [33, 33, 33, 33, 33, 33, 33, 33, 33, 33, 33, 33, 33, 33, 33, 33, 33, 33, 33, 33, 33, 33, 33, 33, 33, 33, 33, 33, 33, 33, 33, 33, 33, 33, 33, 33, 33, 33, 33, 33, 33, 33, 33, 33, 33, 33, 33, 33, 33, 33, 33, 33])
def tgn75 : Gst := (tan0, [], kpO none none, [33, 33, 33, 33, 33, 33, 33, 33, 33, 33, 33, 33, 33, 33, 33, 33, 33, 33, 33, 33, 33, 33, 33, 33, 33, 33, 33, 33, 33, 33, 33, 33, 33, 33, 33, 33, 33, 33, 33, 33, 33, 33, 33, 33, 33, 33, 33, 33, 33, 33, 33, 33, 33])
def tgn76 : Gst := (tan0, [], kpO none none, [33, 33, 33, 33, 33, 33, 33, 33, 33, 33, 33, 33, 33, 33, 33, 33, 33, 33, 33, 33, 33, 33, 33, 33, 33, 33, 33, 33, 33, 33, 33, 33, 33, 33, 33, 33, 33, 33, 33, 33, 33, 33, 33, 33, 33, 33, 33, 33, 33, 33, 33, 33, 33, 33])
def tgn77 : Gst := (tan0, [], kpO none none, [33, 33, 33, 33, 33, 33, 33, 33, 33, 33, 33, 33, 33, 33, 33, 33, 33, 33, 33, 33, 33, 33, 33, 33, 33, 33, 33, 33, 33, 33, 33, 33, 33, 33, 33, 33, 33, 33, 33, 33, 33, 33, 33, 33, 33, 33, 33, 33, 33, 33, 33, 33, 33, 33, 33])
def tgn78 : Gst := (tan0, [], kpO none none, [33, 33, 33, 33, 33, 33, 33, 33, 33, 33, 33, 33, 33, 33, 33, 33, 33, 33, 33, 33, 33, 33, 33, 33, 33, 33, 33, 33, 33, 33, 33, 33, 33, 33, 33, 33, 33, 33, 33, 33, 33, 33, 33, 33, 33, 33, 33, 33, 33, 33, 33, 33, 33, 33, 33, 33])
def tgn79 : Gst := (tan0, [], kpO none none, [33, 33, 33, 33, 33, 33, 33, 33, 33, 33, 33, 33, 33, 33, 33, 33, 33, 33, 33, 33, 33, 33, 33, 33, 33, 33, 33, 33, 33, 33, 33, 33, 33, 33, 33, 33, 33, 33, 33, 33, 33, 33, 33, 33, 33, 33, 33, 33, 33, 33, 33, 33, 33, 33, 33, 33, 33])
def tgn80 : Gst := (tan0, [], kpO none none, [33, 33, 33, 33, 33, 33, 33, 33, 33, 33, 33, 33, 33, 33, 33, 33, 33, 33, 33, 33, 33, 33, 33, 33, 33, 33, 33, 33, 33, 33, 33, 33, 33, 33, 33, 33, 33, 33, 33, 33, 33, 33, 33, 33, 33, 33, 33, 33, 33, 33, 33, 33, 33, 33, 33, 33, 33, 33])
def tgn81 : Gst := (tan0, [], kpO none none, [33, 33, 33, 33, 33, 33, 33, 33, 33, 33, 33, 33, 33, 33, 33, 33, 33, 33, 33, 33, 33, 33, 33, 33, 33, 33, 33, 33, 33, 33, 33, 33, 33, 33, 33, 33, 33, 33, 33, 33, 33, 33, 33, 33, 33, 33, 33, 33, 33, 33, 33, 33, 33, 33, 33, 33, 33, 33, 100])
def tgn82 : Gst := (tan0, [], kpO none none, [33, 33, 33, 33, 33, 33, 33, 33, 33, 33, 33, 33, 33, 33, 33, 33, 33, 33, 33, 33, 33, 33, 33, 33, 33, 33, 33, 33, 33, 33, 33, 33, 33, 33, 33, 33, 33, 33, 33, 33, 33, 33, 33, 33, 33, 33, 33, 33, 33, 33, 33, 33, 33, 33, 33, 33, 33, 33, 100, 63])
def tan1 : Abs := mkA [] [] [[], [], [], [], [], [12004, 0, 0, 0, 0, 0, 0, 0, 0, 0, 0, 0, 0, 0, 0, 0, 0, 0, 0, 0, 0, 0, 0, 0, 0, 0, 0, 0, 0, 0, 0, 0, 0, 0, 0, 0, 0, 0, 0, 0, 0, 0, 0, 0, 0, 0, 0, 0, 0, 0, 0, 0, 0, 0, 0, 0, 0, 0, 0], [], []] 0
def tgn83 : Gst := (tan1, [tan0], kpO none none, [])
def tgn84 : Gst := (tan1, [tan0], kpO none none, [40])
def tgn85 : Gst := (tan1, [tan0], kpO none none, [40, 40])
def tgn86 : Gst := (tan1, [tan0], kpO none none, [40, 40, 40])
def tgn87 : Gst := (tan1, [tan0], kpO none none, [40, 40, 40, 40])
def tgn88 : Gst := (tan1, [tan0], kpO none none, [40, 40, 40, 40, 40])
def tgn89 : Gst := (tan1, [tan0], kpO none none, [40, 40, 40, 40, 40, 40])
def tgn90 : Gst := (tan1, [tan0], kpO none none, [40, 40, 40, 40, 40, 40, 40])
def tgn91 : Gst := (tan1, [tan0], kpO none none, [40, 40, 40, 40, 40, 40, 40, 40])
def tgn92 : Gst := (tan1, [tan0], kpO none none, [40, 40, 40, 40, 40, 40, 40, 40, 40])
def tgn93 : Gst := (tan1, [tan0], kpO none none, [40, 40, 40, 40, 40, 40, 40, 40, 40, 40])
def tgn94 : Gst := (tan1, [tan0], kpO none none, [40, 40, 40, 40, 40, 40, 40, 40, 40, 40, 40])
def tgn95 : Gst := (tan1, [tan0], kpO none none, [40, 40, 40, 40, 40, 40, 40, 40, 40, 40, 40, 40])
def tgn96 : Gst := (tan1, [tan0], kpO none none, [40, 40, 40, 40, 40, 40, 40, 40, 40, 40, 40, 40, 40])
def tgn97 : Gst := (tan1, [tan0], kpO none none, [40, 40, 40, 40, 40, 40, 40, 40, 40, 40, 40, 40, 40, 40])
def tgn98 : Gst := (tan1, [tan0], kpO none none, [40, 40, 40, 40, 40, 40, 40, 40, 40, 40, 40, 40, 40, 40, 40])
def tgn99 : Gst := (tan1, [tan0], kpO none none, [40, 40, 40, 40, 40, 40, 40, 40, 40, 40, 40, 40, 40, 40, 40, 40])
def tgn100 : Gst := (tan1, [tan0], kpO none none, [40, 40, 40, 40, 40, 40, 40, 40, 40, 40, 40, 40, 40, 40, 40, 40, 40])
def tgn101 : Gst := (tan1, [tan0], kpO none none, [40, 40, 40, 40, 40, 40, 40, 40, 40, 40, 40, 40, 40, 40, 40, 40, 40, 40])
def tgn102 : Gst := (tan1, [tan0], kpO none none, [40, 40, 40, 40, 40, 40, 40, 40, 40, 40, 40, 40, 40, 40, 40, 40, 40, 40, 40])
def tgn103 : Gst := (tan1, [tan0], kpO none none, [40, 40, 40, 40, 40, 40, 40, 40, 40, 40, 40, 40, 40, 40, 40, 40, 40, 40, 40, 40])
def tgn104 : Gst := (tan1, [tan0], kpO none none, [40, 40, 40, 40, 40, 40, 40, 40, 40, 40, 40, 40, 40, 40, 40, 40, 40, 40, 40, 40, 40])
def tgn105 : Gst := (tan1, [tan0], kpO none none, [40, 40, 40, 40, 40, 40, 40, 40, 40, 40, 40, 40, 40, 40, 40, 40, 40, 40, 40, 40, 40, 40])
def tgn106 : Gst := (tan1, [tan0], kpO none none, [40, 40, 40, 40, 40, 40, 40, 40, 40, 40, 40, 40, 40, 40, 40, 40, 40, 40, 40, 40, 40, 40, 40])
def tgn107 : Gst := (tan1, [tan0], kpO none none, [40, 40, 40, 40, 40, 40, 40, 40, 40, 40, 40, 40, 40, 40, 40, 40, 40, 40, 40, 40, 40, 40, 40, 40])
def tgn108 : Gst := (tan1, [tan0], kpO none none, [40, 40, 40, 40, 40, 40, 40, 40, 40, 40, 40, 40, 40, 40, 40, 40, 40, 40, 40, 40, 40, 40, 40, 40, 40])
def tgn109 : Gst := (tan1, [tan0], kpO none none, [40, 40, 40, 40, 40, 40, 40, 40, 40, 40, 40, 40, 40, 40, 40, 40, 40, 40, 40, 40, 40, 40, 40, 40, 40, 40])
def tgn110 : Gst := (tan1, [tan0], kpO none none, [40, 40, 40, 40, 40, 40, 40, 40, 40, 40, 40, 40, 40, 40, 40, 40, 40, 40, 40, 40, 40, 40, 40, 40, 40, 40, 40])
def tgn111 : Gst := (tan1, [tan0], kpO none none, [40, 40, 40, 40, 40, 40, 40, 40, 40, 40, 40, 40, 40, 40, 40, 40, 40, 40, 40, 40, 40, 40, 40, 40, 40, 40, 40, 40])
def tgn112 : Gst := (tan1, [tan0], kpO none none, [40, 40, 40, 40, 40, 40, 40, 40, 40, 40, 40, 40, 40, 40, 40, 40, 40, 40, 40, 40, 40, 40, 40, 40, 40, 40, 40, 40, 40])
def tgn113 : Gst := (tan1, [tan0], kpO none none, [40, 40, 40, 40, 40, 40, 40, 40, 40, 40, 40, 40, 40, 40, 40, 40, 40, 40, 40, 40, 40, 40, 40, 40, 40, 40, 40, 40, 40, 40])
def tgn114 : Gst := (tan1, [tan0], kpO none none, [40, 40, 40, 40, 40, 40, 40, 40, 40, 40, 40, 40, 40, 40, 40, 40, 40, 40, 40, 40, 40, 40, 40, 40, 40, 40, 40, 40, 40, 40, 40])
def tgn115 : Gst := (tan1, [tan0], kpO none none, [40, 40, 40, 40, 40, 40, 40, 40, 40, 40, 40, 40, 40, 40, 40, 40, 40, 40, 40, 40, 40, 40, 40, 40, 40, 40, 40, 40, 40, 40, 40, 40])
def tgn116 : Gst := (tan1, [tan0], kpO none none, [40, 40, 40, 40, 40, 40, 40, 40, 40, 40, 40, 40, 40, 40, 40, 40, 40, 40, 40, 40, 40, 40, 40, 40, 40, 40, 40, 40, 40, 40, 40, 40, 40])
def tgn117 : Gst := (tan1, [tan0], kpO none none, [40, 40, 40, 40, 40, 40, 40, 40, 40, 40, 40, 40, 40, 40, 40, 40, 40, 40, 40, 40, 40, 40, 40, 40, 40, 40, 40, 40, 40, 40, 40, 40, 40, 40])
def tgn118 : Gst := (tan1, [tan0], kpO none none, [40, 40, 40, 40, 40, 40, 40, 40, 40, 40, 40, 40, 40, 40, 40, 40, 40, 40, 40, 40, 40, 40, 40, 40, 40, 40, 40, 40, 40, 40, 40, 40, 40, 40, 40])
def tgn119 : Gst := (tan1, [tan0], kpO none none, [40, 40, 40, 40, 40, 40, 40, 40, 40, 40, 40, 40, 40, 40, 40, 40, 40, 40, 40, 40, 40, 40, 40, 40, 40, 40, 40, 40, 40, 40, 40, 40, 40, 40, 40, 40])
def tgn120 : Gst := (tan1, [tan0], kpO none none, [40, 40, 40, 40, 40, 40, 40, 40, 40, 40, 40, 40, 40, 40, 40, 40, 40, 40, 40, 40, 40, 40, 40, 40, 40, 40, 40, 40, 40, 40, 40, 40, 40, 40, 40, 40, 40])
def tgn121 : Gst := (tan1, [tan0], kpO none none, [40, 40, 40, 40, 40, 40, 40, 40, 40, 40, 40, 40, 40, 40, 40, 40, 40, 40, 40, 40, 40, 40, 40, 40, 40, 40, 40, 40, 40, 40, 40, 40, 40, 40, 40, 40, 40, 40])
def tgn122 : Gst := (tan1, [tan0], kpO none none, [40, 40, 40, 40, 40, 40, 40, 40, 40, 40, 40, 40, 40, 40, 40, 40, 40, 40, 40, 40, 40, 40, 40, 40, 40, 40, 40, 40, 40, 40, 40, 40, 40, 40, 40, 40, 40, 40, 40])
def tgn123 : Gst := (tan1, [tan0], kpO none none, [40, 40, 40, 40, 40, 40, 40, 40, 40, 40, 40, 40, 40, 40, 40, 40, 40, 40, 40, 40, 40, 40, 40, 40, 40, 40, 40, 40, 40, 40, 40, 40, 40, 40, 40, 40, 40, 40, 40, 40])
def tgn124 : Gst := (tan1, [tan0], kpO none none, [40, 40, 40, 40, 40, 40, 40, 40, 40, 40, 40, 40, 40, 40, 40, 40, 40, 40, 40, 40, 40, 40, 40, 40, 40, 40, 40, 40, 40, 40, 40, 40, 40, 40, 40, 40, 40, 40, 40, 40, 40])
def tgn125 : Gst := (tan1, [tan0], kpO none none, [40, 40, 40, 40, 40, 40, 40, 40, 40, 40, 40, 40, 40, 40, 40, 40, 40, 40, 40, 40, 40, 40, 40, 40, 40, 40, 40, 40, 40, 40, 40, 40, 40, 40, 40, 40, 40, 40, 40, 40, 40, 40])
def tgn126 : Gst := (tan1, [tan0], kpO none none, [40, 40, 40, 40, 40, 40, 40, 40, 40, 40, 40, 40, 40, 40, 40, 40, 40, 40, 40, 40, 40, 40, 40, 40, 40, 40, 40, 40, 40, 40, 40, 40, 40, 40, 40, 40, 40, 40, 40, 40, 40, 40, 40])
def tgn127 : Gst := (tan1, [tan0], kpO none none, [40, 40, 40, 40, 40, 40, 40, 40, 40, 40, 40, 40, 40, 40, 40, 40, 40, 40, 40, 40, 40, 40, 40, 40, 40, 40, 40, 40, 40, 40, 40, 40, 40, 40, 40, 40, 40, 40, 40, 40, 40, 40, 40, 40])
def tgn128 : Gst := (tan1, [tan0], kpO none none, [40, 40, 40, 40, 40, 40, 40, 40, 40, 40, 40, 40, 40, 40, 40, 40, 40, 40, 40, 40, 40, 40, 40, 40, 40, 40, 40, 40, 40, 40, 40, 40, 40, 40, 40, 40, 40, 40, 40, 40, 40, 40, 40, 40, 40])
def tgn129 : Gst := (tan1, [tan0], kpO none none, [40, 40, 40, 40, 40, 40, 40, 40, 40, 40, 40, 40, 40, 40, 40, 40, 40, 40, 40, 40, 40, 40, 40, 40, 40, 40, 40, 40, 40, 40, 40, 40, 40, 40, 40, 40, 40, 40, 40, 40, 40, 40, 40, 40, 40, 40])
def tgn130 : Gst := (tan1, [tan0], kpO none none, [40, 40, 40, 40, 40, 40, 40, 40, 40, 40, 40, 40, 40, 40, 40, 40, 40, 40, 40, 40, 40, 40, 40, 40, 40, 40, 40, 40, 40, 40, 40, 40, 40, 40, 40, 40, 40, 40, 40, 40, 40, 40, 40, 40, 40, 40, 40])
def tgn131 : Gst := (tan1, [tan0], kpO none none, [40, 40, 40, 40, 40, 40, 40, 40, 40, 40, 40, 40, 40, 40, 40, 40, 40, 40, 40, 40, 40, 40, 40, 40, 40, 40, 40, 40, 40, 40, 40, 40, 40, 40, 40, 40, 40, 40, 40, 40, 40, 40, 40, 40, 40, 40, 40, 40])
def tgn132 : Gst := (tan1, [tan0], kpO none none, [40, 40, 40, 40, 40, 40, 40, 40, 40, 40, 40, 40, 40, 40, 40, 40, 40, 40, 40, 40, 40, 40, 40, 40, 40, 40, 40, 40, 40, 40, 40, 40, 40, 40, 40, 40, 40, 40, 40, 40, 40, 40, 40, 40, 40, 40, 40, 40, 40])
def tgn133 : Gst := (tan1, [tan0], kpO none none, [40, 40, 40, 40, 40, 40, 40, 40, 40, 40, 40, 40, 40, 40, 40, 40, 40, 40, 40, 40, 40, 40, 40, 40, 40, 40, 40, 40, 40, 40, 40, 40, 40, 40, 40, 40, 40, 40, 40, 40, 40, 40, 40, 40, 40, 40, 40, 40, 40, 40])
def tgn134 : Gst := (tan1, [tan0], kpO none none, [40, 40, 40, 40, 40, 40, 40, 40, 40, 40, 40, 40, 40, 40, 40, 40, 40, 40, 40, 40, 40, 40, 40, 40, 40, 40, 40, 40, 40, 40, 40, 40, 40, 40, 40, 40, 40, 40, 40, 40, 40, 40, 40, 40, 40, 40, 40, 40, 40, 40, 40])
def tgn135 : Gst := (tan1, [tan0], kpO none none, [40, 40, 40, 40, 40, 40, 40, 40, 40, 40, 40, 40, 40, 40, 40, 40, 40, 40, 40, 40, 40, 40, 40, 40, 40, 40, 40, 40, 40, 40, 40, 40, 40, 40, 40, 40, 40, 40, 40, 40, 40, 40, 40, 40, 40, 40, 40, 40, 40, 40, 40, 40])
def tgn136 : Gst := (tan1, [tan0], kpO none none, [40, 40, 40, 40, 40, 40, 40, 40, 40, 40, 40, 40, 40, 40, 40, 40, 40, 40, 40, 40, 40, 40, 40, 40, 40, 40, 40, 40, 40, 40, 40, 40, 40, 40, 40, 40, 40, 40, 40, 40, 40, 40, 40, 40, 40, 40, 40, 40, 40, 40, 40, 40, 40])
def tgn137 : Gst := (tan1, [tan0], kpO none none, [40, 40, 40, 40, 40, 40, 40, 40, 40, 40, 40, 40, 40, 40, 40, 40, 40, 40, 40, 40, 40, 40, 40, 40, 40, 40, 40, 40, 40, 40, 40, 40, 40, 40, 40, 40, 40, 40, 40, 40, 40, 40, 40, 40, 40, 40, 40, 40, 40, 40, 40, 40, 40, 40])
def tgn138 : Gst := (tan1, [tan0], kpO none none, [40, 40, 40, 40, 40, 40, 40, 40, 40, 40, 40, 40, 40, 40, 40, 40, 40, 40, 40, 40, 40, 40, 40, 40, 40, 40, 40, 40, 40, 40, 40, 40, 40, 40, 40, 40, 40, 40, 40, 40, 40, 40, 40, 40, 40, 40, 40, 40, 40, 40, 40, 40, 40, 40, 40])
def tgn139 : Gst := (tan1, [tan0], kpO none none, [40, 40, 40, 40, 40, 40, 40, 40, 40, 40, 40, 40, 40, 40, 40, 40, 40, 40, 40, 40, 40, 40, 40, 40, 40, 40, 40, 40, 40, 40, 40, 40, 40, 40, 40, 40, 40, 40, 40, 40, 40, 40, 40, 40, 40, 40, 40, 40, 40, 40, 40, 40, 40, 40, 40, 40])
def tgn140 : Gst := (tan1, [tan0], kpO none none, [40, 40, 40, 40, 40, 40, 40, 40, 40, 40, 40, 40, 40, 40, 40, 40, 40, 40, 40, 40, 40, 40, 40, 40, 40, 40, 40, 40, 40, 40, 40, 40, 40, 40, 40, 40, 40, 40, 40, 40, 40, 40, 40, 40, 40, 40, 40, 40, 40, 40, 40, 40, 40, 40, 40, 40, 97])
def tgn141 : Gst := (tan1, [tan0], kpO none none, [40, 40, 40, 40, 40, 40, 40, 40, 40, 40, 40, 40, 40, 40, 40, 40, 40, 40, 40, 40, 40, 40, 40, 40, 40, 40, 40, 40, 40, 40, 40, 40, 40, 40, 40, 40, 40, 40, 40, 40, 40, 40, 40, 40, 40, 40, 40, 40, 40, 40, 40, 40, 40, 40, 40, 40, 97, 60])
def tgn142 : Gst := (tan1, [tan0], kpO none none, [40, 40, 40, 40, 40, 40, 40, 40, 40, 40, 40, 40, 40, 40, 40, 40, 40, 40, 40, 40, 40, 40, 40, 40, 40, 40, 40, 40, 40, 40, 40, 40, 40, 40, 40, 40, 40, 40, 40, 40, 40, 40, 40, 40, 40, 40, 40, 40, 40, 40, 40, 40, 40, 40, 40, 40, 97, 60, 57])
def tgn143 : Gst := (tan1, [tan0], kpO none none, [40, 40, 40, 40, 40, 40, 40, 40, 40, 40, 40, 40, 40, 40, 40, 40, 40, 40, 40, 40, 40, 40, 40, 40, 40, 40, 40, 40, 40, 40, 40, 40, 40, 40, 40, 40, 40, 40, 40, 40, 40, 40, 40, 40, 40, 40, 40, 40, 40, 40, 40, 40, 40, 40, 40, 40, 97, 60, 57, 41])
theorem tfk0 : eqG gst0 tgn0 = true := by decide +kernel
theorem tfk1 : tyK 97 8 0 = true := by decide +kernel
theorem tfk2 : tyL 97 8 [] = [97] := by decide +kernel
theorem tfk3 : tyK 0 8 [97].length = true := by decide +kernel
theorem tfk4 : tyL 0 8 [97] = [97] := by decide +kernel
theorem tfk5 : errV tgn1 = 1 := by decide +kernel
theorem tfk6 : tyK 417638461488 8 0 = true := by decide +kernel
theorem tfk7 : tyL 417638461488 8 [] = [97, 61, 49, 48, 48] := by decide +kernel
theorem tfk8 : tyK 0 8 [97, 61, 49, 48, 48].length = true := by decide +kernel
theorem tfk9 : tyL 0 8 [97, 61, 49, 48, 48] = [97, 61, 49, 48, 48] := by decide +kernel
theorem tfk10 : errV tgn2 = 4 := by decide +kernel
theorem tfk11 : tyK 1631399989 8 0 = true := by decide +kernel
theorem tfk12 : tyL 1631399989 8 [] = [97, 61, 48, 53] := by decide +kernel
theorem tfk13 : tyK 0 8 [97, 61, 48, 53].length = true := by decide +kernel
theorem tfk14 : tyL 0 8 [97, 61, 48, 53] = [97, 61, 48, 53] := by decide +kernel
theorem tfk15 : errV tgn3 = 3 := by decide +kernel
theorem tfk16 : tyK 101 8 0 = true := by decide +kernel
theorem tfk17 : tyL 101 8 [] = [101] := by decide +kernel
theorem tfk18 : tyK 0 8 [101].length = true := by decide +kernel
theorem tfk19 : tyL 0 8 [101] = [101] := by decide +kernel
theorem tfk20 : errV tgn4 = 0 := by decide +kernel
theorem tfk21 : tyK 24865 8 0 = true := by decide +kernel
theorem tfk22 : tyL 24865 8 [] = [97, 33] := by decide +kernel
theorem tfk23 : tyK 0 8 [97, 33].length = true := by decide +kernel
theorem tfk24 : tyL 0 8 [97, 33] = [97, 33] := by decide +kernel
theorem tfk25 : errV tgn5 = 1 := by decide +kernel
theorem tfk26 : tyK 2646335 8 0 = true := by decide +kernel
theorem tfk27 : tyL 2646335 8 [] = [40, 97, 63] := by decide +kernel
theorem tfk28 : tyK 0 8 [40, 97, 63].length = true := by decide +kernel
theorem tfk29 : tyL 0 8 [40, 97, 63] = [40, 97, 63] := by decide +kernel
theorem tfk30 : errV tgn6 = 3 := by decide +kernel
theorem tfk31 : tyK 6373161 8 0 = true := by decide +kernel
theorem tfk32 : tyL 6373161 8 [] = [97, 63, 41] := by decide +kernel
theorem tfk33 : tyK 0 8 [97, 63, 41].length = true := by decide +kernel
theorem tfk34 : tyL 0 8 [97, 63, 41] = [97, 63, 41] := by decide +kernel
theorem tfk35 : errV tgn7 = 2 := by decide +kernel
theorem tfk36 : tyK 6373218 8 0 = true := by decide +kernel
theorem tfk37 : tyL 6373218 8 [] = [97, 63, 98] := by decide +kernel
theorem tfk38 : tyK 0 8 [97, 63, 98].length = true := by decide +kernel
theorem tfk39 : tyL 0 8 [97, 63, 98] = [97, 63, 98] := by decide +kernel
theorem tfk40 : errV tgn8 = 2 := by decide +kernel
theorem tfk41 : tyK 33 8 0 = true := by decide +kernel
theorem tfk42 : tyL 33 8 [] = [33] := by decide +kernel
theorem tfk43 : tyK 0 8 [33].length = true := by decide +kernel
theorem tfk44 : tyL 0 8 [33] = [33] := by decide +kernel
theorem tfk45 : errV tgn9 = 1 := by decide +kernel
theorem tfk46 : tyK 1631412789 8 0 = true := by decide +kernel
theorem tfk47 : tyL 1631412789 8 [] = [97, 61, 98, 53] := by decide +kernel
theorem tfk48 : tyK 0 8 [97, 61, 98, 53].length = true := by decide +kernel
theorem tfk49 : tyL 0 8 [97, 61, 98, 53] = [97, 61, 98, 53] := by decide +kernel
theorem tfk50 : errV tgn10 = 3 := by decide +kernel
theorem tfk51 : tyK 1631401314 8 0 = true := by decide +kernel
theorem tfk52 : tyL 1631401314 8 [] = [97, 61, 53, 98] := by decide +kernel
theorem tfk53 : tyK 0 8 [97, 61, 53, 98].length = true := by decide +kernel
theorem tfk54 : tyL 0 8 [97, 61, 53, 98] = [97, 61, 53, 98] := by decide +kernel
theorem tfk55 : errV tgn11 = 3 := by decide +kernel
theorem tfk56 : tyK 0 8 0 = true := by decide +kernel
theorem tfk57 : tyL 0 8 [] = ([] : List Nat) := by decide +kernel
theorem tfk58 : tyK 0 8 ([] : List Nat).length = true := by decide +kernel
theorem tfk59 : tyL 0 8 ([] : List Nat) = ([] : List Nat) := by decide +kernel
theorem tfk60 : errV tgn0 = 0 := by decide +kernel
theorem tfk61 : tyK 2389266527617694777 8 0 = true := by decide +kernel
theorem tfk62 : tyL 2389266527617694777 8 [] = [33, 40, 97, 63, 124, 98, 60, 57] := by decide +kernel
theorem tfk63 : tyK 176737697124 8 [33, 40, 97, 63, 124, 98, 60, 57].length = true := by decide +kernel
theorem tfk64 : tyL 176737697124 8 [33, 40, 97, 63, 124, 98, 60, 57] = [33, 40, 97, 63, 124, 98, 60, 57, 41, 38, 99, 61, 100] := by decide +kernel
theorem tfk65 : errV tgn12 = 13 := by decide +kernel
theorem tfk66 : tyK 1631528486 8 0 = true := by decide +kernel
theorem tfk67 : tyL 1631528486 8 [] = [97, 63, 38, 38] := by decide +kernel
theorem tfk68 : tyK 0 8 [97, 63, 38, 38].length = true := by decide +kernel
theorem tfk69 : tyL 0 8 [97, 63, 38, 38] = [97, 63, 38, 38] := by decide +kernel
theorem tfk70 : errV tgn13 = 3 := by decide +kernel
theorem tfk71 : tyK 10281 8 0 = true := by decide +kernel
theorem tfk72 : tyL 10281 8 [] = [40, 41] := by decide +kernel
theorem tfk73 : tyK 0 8 [40, 41].length = true := by decide +kernel
theorem tfk74 : tyL 0 8 [40, 41] = [40, 41] := by decide +kernel
theorem tfk75 : errV tgn14 = 1 := by decide +kernel
theorem tfk76 : tyK 11303397175208233 8 0 = true := by decide +kernel
theorem tfk77 : tyL 11303397175208233 8 [] = [40, 40, 97, 61, 98, 41, 41] := by decide +kernel
theorem tfk78 : tyK 0 8 [40, 40, 97, 61, 98, 41, 41].length = true := by decide +kernel
theorem tfk79 : tyL 0 8 [40, 40, 97, 61, 98, 41, 41] = [40, 40, 97, 61, 98, 41, 41] := by decide +kernel
theorem tfk80 : errV tgn15 = 7 := by decide +kernel
theorem tfk81 : tyK 417638988156 8 0 = true := by decide +kernel
theorem tfk82 : tyL 417638988156 8 [] = [97, 61, 57, 57, 124] := by decide +kernel
theorem tfk83 : tyK 0 8 [97, 61, 57, 57, 124].length = true := by decide +kernel
theorem tfk84 : tyL 0 8 [97, 61, 57, 57, 124] = [97, 61, 57, 57, 124] := by decide +kernel
theorem tfk85 : errV tgn16 = 5 := by decide +kernel
theorem tfk86 : tyK 142294138416 8 0 = true := by decide +kernel
theorem tfk87 : tyL 142294138416 8 [] = [33, 33, 100, 62, 48] := by decide +kernel
theorem tfk88 : tyK 0 8 [33, 33, 100, 62, 48].length = true := by decide +kernel
theorem tfk89 : tyL 0 8 [33, 33, 100, 62, 48] = [33, 33, 100, 62, 48] := by decide +kernel
theorem tfk90 : errV tgn17 = 5 := by decide +kernel
theorem tfk91 : tyK 6373183 8 0 = true := by decide +kernel
theorem tfk92 : tyL 6373183 8 [] = [97, 63, 63] := by decide +kernel
theorem tfk93 : tyK 0 8 [97, 63, 63].length = true := by decide +kernel
theorem tfk94 : tyL 0 8 [97, 63, 63] = [97, 63, 63] := by decide +kernel
theorem tfk95 : errV tgn18 = 2 := by decide +kernel
theorem tfk96 : tyK 2909676637714852137 8 0 = true := by decide +kernel
theorem tfk97 : tyL 2909676637714852137 8 [] = [40, 97, 63, 124, 98, 63, 41, 41] := by decide +kernel
theorem tfk98 : tyK 0 8 [40, 97, 63, 124, 98, 63, 41, 41].length = true := by decide +kernel
theorem tfk99 : tyL 0 8 [40, 97, 63, 124, 98, 63, 41, 41] = [40, 97, 63, 124, 98, 63, 41, 41] := by decide +kernel
theorem tfk100 : errV tgn19 = 7 := by decide +kernel
theorem tfk101 : tyK 6372709 8 0 = true := by decide +kernel
theorem tfk102 : tyL 6372709 8 [] = [97, 61, 101] := by decide +kernel
theorem tfk103 : tyK 0 8 [97, 61, 101].length = true := by decide +kernel
theorem tfk104 : tyL 0 8 [97, 61, 101] = [97, 61, 101] := by decide +kernel
theorem tfk105 : errV tgn20 = 2 := by decide +kernel
theorem tfk106 : tyK 1631528481 8 0 = true := by decide +kernel
theorem tfk107 : tyL 1631528481 8 [] = [97, 63, 38, 33] := by decide +kernel
theorem tfk108 : tyK 0 8 [97, 63, 38, 33].length = true := by decide +kernel
theorem tfk109 : tyL 0 8 [97, 63, 38, 33] = [97, 63, 38, 33] := by decide +kernel
theorem tfk110 : errV tgn21 = 4 := by decide +kernel
theorem tfk111 : tyK 8151359 8 0 = true := by decide +kernel
theorem tfk112 : tyL 8151359 8 [] = [124, 97, 63] := by decide +kernel
theorem tfk113 : tyK 0 8 [124, 97, 63].length = true := by decide +kernel
theorem tfk114 : tyL 0 8 [124, 97, 63] = [124, 97, 63] := by decide +kernel
theorem tfk115 : errV tgn22 = 0 := by decide +kernel
theorem tfk116 : tyK 7006583037294961788 8 0 = true := by decide +kernel
theorem tfk117 : tyL 7006583037294961788 8 [] = [97, 60, 98, 38, 99, 62, 100, 124] := by decide +kernel
theorem tfk118 : tyK 25663 8 [97, 60, 98, 38, 99, 62, 100, 124].length = true := by decide +kernel
theorem tfk119 : tyL 25663 8 [97, 60, 98, 38, 99, 62, 100, 124] = [97, 60, 98, 38, 99, 62, 100, 124, 100, 63] := by decide +kernel
theorem tfk120 : errV tgn23 = 10 := by decide +kernel
theorem tfk121 : (opClear tgn23).1 = 10 := by decide +kernel
theorem tfk122 : eqG (opClear tgn23).2 tgn0 = true := by decide +kernel
theorem tfk123 : opCount tgn0 6 = .inl 0 := by decide +kernel
theorem tfk124 : (opAppend tgn0 33).1 = .inl 1 := by decide +kernel
theorem tfk125 : eqG (opAppend tgn0 33).2 tgn9 = true := by decide +kernel
theorem tfk126 : (opAppend tgn9 33).1 = .inl 2 := by decide +kernel
theorem tfk127 : eqG (opAppend tgn9 33).2 tgn24 = true := by decide +kernel
theorem tfk128 : (opAppend tgn24 33).1 = .inl 3 := by decide +kernel
theorem tfk129 : eqG (opAppend tgn24 33).2 tgn25 = true := by decide +kernel
theorem tfk130 : (opAppend tgn25 33).1 = .inl 4 := by decide +kernel
theorem tfk131 : eqG (opAppend tgn25 33).2 tgn26 = true := by decide +kernel
theorem tfk132 : (opAppend tgn26 33).1 = .inl 5 := by decide +kernel
theorem tfk133 : eqG (opAppend tgn26 33).2 tgn27 = true := by decide +kernel
theorem tfk134 : (opAppend tgn27 33).1 = .inl 6 := by decide +kernel
theorem tfk135 : eqG (opAppend tgn27 33).2 tgn28 = true := by decide +kernel
theorem tfk136 : (opAppend tgn28 33).1 = .inl 7 := by decide +kernel
theorem tfk137 : eqG (opAppend tgn28 33).2 tgn29 = true := by decide +kernel
theorem tfk138 : (opAppend tgn29 33).1 = .inl 8 := by decide +kernel
theorem tfk139 : eqG (opAppend tgn29 33).2 tgn30 = true := by decide +kernel
theorem tfk140 : (opAppend tgn30 33).1 = .inl 9 := by decide +kernel
theorem tfk141 : eqG (opAppend tgn30 33).2 tgn31 = true := by decide +kernel
theorem tfk142 : (opAppend tgn31 33).1 = .inl 10 := by decide +kernel
theorem tfk143 : eqG (opAppend tgn31 33).2 tgn32 = true := by decide +kernel
theorem tfk144 : (opAppend tgn32 33).1 = .inl 11 := by decide +kernel
theorem tfk145 : eqG (opAppend tgn32 33).2 tgn33 = true := by decide +kernel
theorem tfk146 : (opAppend tgn33 33).1 = .inl 12 := by decide +kernel
theorem tfk147 : eqG (opAppend tgn33 33).2 tgn34 = true := by decide +kernel
theorem tfk148 : (opAppend tgn34 33).1 = .inl 13 := by decide +kernel
theorem tfk149 : eqG (opAppend tgn34 33).2 tgn35 = true := by decide +kernel
theorem tfk150 : (opAppend tgn35 33).1 = .inl 14 := by decide +kernel
theorem tfk151 : eqG (opAppend tgn35 33).2 tgn36 = true := by decide +kernel
theorem tfk152 : (opAppend tgn36 33).1 = .inl 15 := by decide +kernel
theorem tfk153 : eqG (opAppend tgn36 33).2 tgn37 = true := by decide +kernel
theorem tfk154 : (opAppend tgn37 33).1 = .inl 16 := by decide +kernel
theorem tfk155 : eqG (opAppend tgn37 33).2 tgn38 = true := by decide +kernel
theorem tfk156 : (opAppend tgn38 33).1 = .inl 17 := by decide +kernel
theorem tfk157 : eqG (opAppend tgn38 33).2 tgn39 = true := by decide +kernel
theorem tfk158 : (opAppend tgn39 33).1 = .inl 18 := by decide +kernel
theorem tfk159 : eqG (opAppend tgn39 33).2 tgn40 = true := by decide +kernel
theorem tfk160 : (opAppend tgn40 33).1 = .inl 19 := by decide +kernel
theorem tfk161 : eqG (opAppend tgn40 33).2 tgn41 = true := by decide +kernel
theorem tfk162 : (opAppend tgn41 33).1 = .inl 20 := by decide +kernel
theorem tfk163 : eqG (opAppend tgn41 33).2 tgn42 = true := by decide +kernel
theorem tfk164 : (opAppend tgn42 33).1 = .inl 21 := by decide +kernel
theorem tfk165 : eqG (opAppend tgn42 33).2 tgn43 = true := by decide +kernel
theorem tfk166 : (opAppend tgn43 33).1 = .inl 22 := by decide +kernel
theorem tfk167 : eqG (opAppend tgn43 33).2 tgn44 = true := by decide +kernel
theorem tfk168 : (opAppend tgn44 33).1 = .inl 23 := by decide +kernel
theorem tfk169 : eqG (opAppend tgn44 33).2 tgn45 = true := by decide +kernel
theorem tfk170 : (opAppend tgn45 33).1 = .inl 24 := by decide +kernel
theorem tfk171 : eqG (opAppend tgn45 33).2 tgn46 = true := by decide +kernel
theorem tfk172 : (opAppend tgn46 33).1 = .inl 25 := by decide +kernel
theorem tfk173 : eqG (opAppend tgn46 33).2 tgn47 = true := by decide +kernel
theorem tfk174 : (opAppend tgn47 33).1 = .inl 26 := by decide +kernel
theorem tfk175 : eqG (opAppend tgn47 33).2 tgn48 = true := by decide +kernel
theorem tfk176 : (opAppend tgn48 33).1 = .inl 27 := by decide +kernel
theorem tfk177 : eqG (opAppend tgn48 33).2 tgn49 = true := by decide +kernel
theorem tfk178 : (opAppend tgn49 33).1 = .inl 28 := by decide +kernel
theorem tfk179 : eqG (opAppend tgn49 33).2 tgn50 = true := by decide +kernel
theorem tfk180 : (opAppend tgn50 33).1 = .inl 29 := by decide +kernel
theorem tfk181 : eqG (opAppend tgn50 33).2 tgn51 = true := by decide +kernel
theorem tfk182 : (opAppend tgn51 33).1 = .inl 30 := by decide +kernel
theorem tfk183 : eqG (opAppend tgn51 33).2 tgn52 = true := by decide +kernel
theorem tfk184 : (opAppend tgn52 33).1 = .inl 31 := by decide +kernel
theorem tfk185 : eqG (opAppend tgn52 33).2 tgn53 = true := by decide +kernel
theorem tfk186 : (opAppend tgn53 33).1 = .inl 32 := by decide +kernel
theorem tfk187 : eqG (opAppend tgn53 33).2 tgn54 = true := by decide +kernel
theorem tfk188 : (opAppend tgn54 33).1 = .inl 33 := by decide +kernel
theorem tfk189 : eqG (opAppend tgn54 33).2 tgn55 = true := by decide +kernel
theorem tfk190 : (opAppend tgn55 33).1 = .inl 34 := by decide +kernel
theorem tfk191 : eqG (opAppend tgn55 33).2 tgn56 = true := by decide +kernel
theorem tfk192 : (opAppend tgn56 33).1 = .inl 35 := by decide +kernel
theorem tfk193 : eqG (opAppend tgn56 33).2 tgn57 = true := by decide +kernel
theorem tfk194 : (opAppend tgn57 33).1 = .inl 36 := by decide +kernel
theorem tfk195 : eqG (opAppend tgn57 33).2 tgn58 = true := by decide +kernel
theorem tfk196 : (opAppend tgn58 33).1 = .inl 37 := by decide +kernel
theorem tfk197 : eqG (opAppend tgn58 33).2 tgn59 = true := by decide +kernel
theorem tfk198 : (opAppend tgn59 33).1 = .inl 38 := by decide +kernel
theorem tfk199 : eqG (opAppend tgn59 33).2 tgn60 = true := by decide +kernel
theorem tfk200 : (opAppend tgn60 33).1 = .inl 39 := by decide +kernel
theorem tfk201 : eqG (opAppend tgn60 33).2 tgn61 = true := by decide +kernel
theorem tfk202 : (opAppend tgn61 33).1 = .inl 40 := by decide +kernel
theorem tfk203 : eqG (opAppend tgn61 33).2 tgn62 = true := by decide +kernel
theorem tfk204 : (opAppend tgn62 33).1 = .inl 41 := by decide +kernel
theorem tfk205 : eqG (opAppend tgn62 33).2 tgn63 = true := by decide +kernel
theorem tfk206 : (opAppend tgn63 33).1 = .inl 42 := by decide +kernel
theorem tfk207 : eqG (opAppend tgn63 33).2 tgn64 = true := by decide +kernel
theorem tfk208 : (opAppend tgn64 33).1 = .inl 43 := by decide +kernel
theorem tfk209 : eqG (opAppend tgn64 33).2 tgn65 = true := by decide +kernel
theorem tfk210 : (opAppend tgn65 33).1 = .inl 44 := by decide +kernel
theorem tfk211 : eqG (opAppend tgn65 33).2 tgn66 = true := by decide +kernel
theorem tfk212 : (opAppend tgn66 33).1 = .inl 45 := by decide +kernel
theorem tfk213 : eqG (opAppend tgn66 33).2 tgn67 = true := by decide +kernel
theorem tfk214 : (opAppend tgn67 33).1 = .inl 46 := by decide +kernel
theorem tfk215 : eqG (opAppend tgn67 33).2 tgn68 = true := by decide +kernel
theorem tfk216 : (opAppend tgn68 33).1 = .inl 47 := by decide +kernel
theorem tfk217 : eqG (opAppend tgn68 33).2 tgn69 = true := by decide +kernel
theorem tfk218 : (opAppend tgn69 33).1 = .inl 48 := by decide +kernel
theorem tfk219 : eqG (opAppend tgn69 33).2 tgn70 = true := by decide +kernel
theorem tfk220 : (opAppend tgn70 33).1 = .inl 49 := by decide +kernel
theorem tfk221 : eqG (opAppend tgn70 33).2 tgn71 = true := by decide +kernel
theorem tfk222 : (opAppend tgn71 33).1 = .inl 50 := by decide +kernel
theorem tfk223 : eqG (opAppend tgn71 33).2 tgn72 = true := by decide +kernel
theorem tfk224 : (opAppend tgn72 33).1 = .inl 51 := by decide +kernel
theorem tfk225 : eqG (opAppend tgn72 33).2 tgn73 = true := by decide +kernel
theorem tfk226 : (opAppend tgn73 33).1 = .inl 52 := by decide +kernel
theorem tfk227 : eqG (opAppend tgn73 33).2 tgn74 = true := by decide +kernel
theorem tfk228 : (opAppend tgn74 33).1 = .inl 53 := by decide +kernel
theorem tfk229 : eqG (opAppend tgn74 33).2 tgn75 = true := by decide +kernel
theorem tfk230 : (opAppend tgn75 33).1 = .inl 54 := by decide +kernel
theorem tfk231 : eqG (opAppend tgn75 33).2 tgn76 = true := by decide +kernel
theorem tfk232 : (opAppend tgn76 33).1 = .inl 55 := by decide +kernel
theorem tfk233 : eqG (opAppend tgn76 33).2 tgn77 = true := by decide +kernel
theorem tfk234 : (opAppend tgn77 33).1 = .inl 56 := by decide +kernel
theorem tfk235 : eqG (opAppend tgn77 33).2 tgn78 = true := by decide +kernel
theorem tfk236 : (opAppend tgn78 33).1 = .inl 57 := by decide +kernel
theorem tfk237 : eqG (opAppend tgn78 33).2 tgn79 = true := by decide +kernel
theorem tfk238 : (opAppend tgn79 33).1 = .inl 58 := by decide +kernel
theorem tfk239 : eqG (opAppend tgn79 33).2 tgn80 = true := by decide +kernel
theorem tfk240 : (opAppend tgn80 100).1 = .inl 59 := by decide +kernel
theorem tfk241 : eqG (opAppend tgn80 100).2 tgn81 = true := by decide +kernel
theorem tfk242 : (opAppend tgn81 63).1 = .inl 60 := by decide +kernel
theorem tfk243 : eqG (opAppend tgn81 63).2 tgn82 = true := by decide +kernel
theorem tfk244 : (opAppend tgn82 33).1 = .inr 2 := by decide +kernel
theorem tfk245 : errV tgn82 = 60 := by decide +kernel
theorem tfk246 : (opDefine tgn82 5).1 = .inl 59 := by decide +kernel
theorem tfk247 : eqG (opDefine tgn82 5).2 tgn83 = true := by decide +kernel
theorem tfk248 : opFilter tgn83.1 5 1 = .inl 59 := by decide +kernel
theorem tfk249 : opFilter tgn83.1 5 4 = .inl 60 := by decide +kernel
theorem tfk250 : opLetter tgn83.1 5 57 = .inl 33 := by decide +kernel
theorem tfk251 : opLetter tgn83.1 5 59 = .inl 63 := by decide +kernel
theorem tfk252 : (opCombine tgn83 0 5 (dcC 505500500) (dcD 505500500)).1 = .inr 2 := by decide +kernel
theorem tfk253 : opCount tgn83 2 = .inl 1 := by decide +kernel
theorem tfk254 : (opAppend tgn83 40).1 = .inl 1 := by decide +kernel
theorem tfk255 : eqG (opAppend tgn83 40).2 tgn84 = true := by decide +kernel
theorem tfk256 : (opAppend tgn84 40).1 = .inl 2 := by decide +kernel
theorem tfk257 : eqG (opAppend tgn84 40).2 tgn85 = true := by decide +kernel
theorem tfk258 : (opAppend tgn85 40).1 = .inl 3 := by decide +kernel
theorem tfk259 : eqG (opAppend tgn85 40).2 tgn86 = true := by decide +kernel
theorem tfk260 : (opAppend tgn86 40).1 = .inl 4 := by decide +kernel
theorem tfk261 : eqG (opAppend tgn86 40).2 tgn87 = true := by decide +kernel
theorem tfk262 : (opAppend tgn87 40).1 = .inl 5 := by decide +kernel
theorem tfk263 : eqG (opAppend tgn87 40).2 tgn88 = true := by decide +kernel
theorem tfk264 : (opAppend tgn88 40).1 = .inl 6 := by decide +kernel
theorem tfk265 : eqG (opAppend tgn88 40).2 tgn89 = true := by decide +kernel
theorem tfk266 : (opAppend tgn89 40).1 = .inl 7 := by decide +kernel
theorem tfk267 : eqG (opAppend tgn89 40).2 tgn90 = true := by decide +kernel
theorem tfk268 : (opAppend tgn90 40).1 = .inl 8 := by decide +kernel
theorem tfk269 : eqG (opAppend tgn90 40).2 tgn91 = true := by decide +kernel
theorem tfk270 : (opAppend tgn91 40).1 = .inl 9 := by decide +kernel
theorem tfk271 : eqG (opAppend tgn91 40).2 tgn92 = true := by decide +kernel
theorem tfk272 : (opAppend tgn92 40).1 = .inl 10 := by decide +kernel
theorem tfk273 : eqG (opAppend tgn92 40).2 tgn93 = true := by decide +kernel
theorem tfk274 : (opAppend tgn93 40).1 = .inl 11 := by decide +kernel
theorem tfk275 : eqG (opAppend tgn93 40).2 tgn94 = true := by decide +kernel
theorem tfk276 : (opAppend tgn94 40).1 = .inl 12 := by decide +kernel
theorem tfk277 : eqG (opAppend tgn94 40).2 tgn95 = true := by decide +kernel
theorem tfk278 : (opAppend tgn95 40).1 = .inl 13 := by decide +kernel
theorem tfk279 : eqG (opAppend tgn95 40).2 tgn96 = true := by decide +kernel
theorem tfk280 : (opAppend tgn96 40).1 = .inl 14 := by decide +kernel
theorem tfk281 : eqG (opAppend tgn96 40).2 tgn97 = true := by decide +kernel
theorem tfk282 : (opAppend tgn97 40).1 = .inl 15 := by decide +kernel
theorem tfk283 : eqG (opAppend tgn97 40).2 tgn98 = true := by decide +kernel
theorem tfk284 : (opAppend tgn98 40).1 = .inl 16 := by decide +kernel
theorem tfk285 : eqG (opAppend tgn98 40).2 tgn99 = true := by decide +kernel
theorem tfk286 : (opAppend tgn99 40).1 = .inl 17 := by decide +kernel
theorem tfk287 : eqG (opAppend tgn99 40).2 tgn100 = true := by decide +kernel
theorem tfk288 : (opAppend tgn100 40).1 = .inl 18 := by decide +kernel
theorem tfk289 : eqG (opAppend tgn100 40).2 tgn101 = true := by decide +kernel
theorem tfk290 : (opAppend tgn101 40).1 = .inl 19 := by decide +kernel
theorem tfk291 : eqG (opAppend tgn101 40).2 tgn102 = true := by decide +kernel
theorem tfk292 : (opAppend tgn102 40).1 = .inl 20 := by decide +kernel
theorem tfk293 : eqG (opAppend tgn102 40).2 tgn103 = true := by decide +kernel
theorem tfk294 : (opAppend tgn103 40).1 = .inl 21 := by decide +kernel
theorem tfk295 : eqG (opAppend tgn103 40).2 tgn104 = true := by decide +kernel
theorem tfk296 : (opAppend tgn104 40).1 = .inl 22 := by decide +kernel
theorem tfk297 : eqG (opAppend tgn104 40).2 tgn105 = true := by decide +kernel
theorem tfk298 : (opAppend tgn105 40).1 = .inl 23 := by decide +kernel
theorem tfk299 : eqG (opAppend tgn105 40).2 tgn106 = true := by decide +kernel
theorem tfk300 : (opAppend tgn106 40).1 = .inl 24 := by decide +kernel
theorem tfk301 : eqG (opAppend tgn106 40).2 tgn107 = true := by decide +kernel
theorem tfk302 : (opAppend tgn107 40).1 = .inl 25 := by decide +kernel
theorem tfk303 : eqG (opAppend tgn107 40).2 tgn108 = true := by decide +kernel
theorem tfk304 : (opAppend tgn108 40).1 = .inl 26 := by decide +kernel
theorem tfk305 : eqG (opAppend tgn108 40).2 tgn109 = true := by decide +kernel
theorem tfk306 : (opAppend tgn109 40).1 = .inl 27 := by decide +kernel
theorem tfk307 : eqG (opAppend tgn109 40).2 tgn110 = true := by decide +kernel
theorem tfk308 : (opAppend tgn110 40).1 = .inl 28 := by decide +kernel
theorem tfk309 : eqG (opAppend tgn110 40).2 tgn111 = true := by decide +kernel
theorem tfk310 : (opAppend tgn111 40).1 = .inl 29 := by decide +kernel
theorem tfk311 : eqG (opAppend tgn111 40).2 tgn112 = true := by decide +kernel
theorem tfk312 : (opAppend tgn112 40).1 = .inl 30 := by decide +kernel
theorem tfk313 : eqG (opAppend tgn112 40).2 tgn113 = true := by decide +kernel
theorem tfk314 : (opAppend tgn113 40).1 = .inl 31 := by decide +kernel
theorem tfk315 : eqG (opAppend tgn113 40).2 tgn114 = true := by decide +kernel
theorem tfk316 : (opAppend tgn114 40).1 = .inl 32 := by decide +kernel
theorem tfk317 : eqG (opAppend tgn114 40).2 tgn115 = true := by decide +kernel
theorem tfk318 : (opAppend tgn115 40).1 = .inl 33 := by decide +kernel
theorem tfk319 : eqG (opAppend tgn115 40).2 tgn116 = true := by decide +kernel
theorem tfk320 : (opAppend tgn116 40).1 = .inl 34 := by decide +kernel
theorem tfk321 : eqG (opAppend tgn116 40).2 tgn117 = true := by decide +kernel
theorem tfk322 : (opAppend tgn117 40).1 = .inl 35 := by decide +kernel
theorem tfk323 : eqG (opAppend tgn117 40).2 tgn118 = true := by decide +kernel
theorem tfk324 : (opAppend tgn118 40).1 = .inl 36 := by decide +kernel
theorem tfk325 : eqG (opAppend tgn118 40).2 tgn119 = true := by decide +kernel
theorem tfk326 : (opAppend tgn119 40).1 = .inl 37 := by decide +kernel
theorem tfk327 : eqG (opAppend tgn119 40).2 tgn120 = true := by decide +kernel
theorem tfk328 : (opAppend tgn120 40).1 = .inl 38 := by decide +kernel
theorem tfk329 : eqG (opAppend tgn120 40).2 tgn121 = true := by decide +kernel
theorem tfk330 : (opAppend tgn121 40).1 = .inl 39 := by decide +kernel
theorem tfk331 : eqG (opAppend tgn121 40).2 tgn122 = true := by decide +kernel
theorem tfk332 : (opAppend tgn122 40).1 = .inl 40 := by decide +kernel
theorem tfk333 : eqG (opAppend tgn122 40).2 tgn123 = true := by decide +kernel
theorem tfk334 : (opAppend tgn123 40).1 = .inl 41 := by decide +kernel
theorem tfk335 : eqG (opAppend tgn123 40).2 tgn124 = true := by decide +kernel
theorem tfk336 : (opAppend tgn124 40).1 = .inl 42 := by decide +kernel
theorem tfk337 : eqG (opAppend tgn124 40).2 tgn125 = true := by decide +kernel
theorem tfk338 : (opAppend tgn125 40).1 = .inl 43 := by decide +kernel
theorem tfk339 : eqG (opAppend tgn125 40).2 tgn126 = true := by decide +kernel
theorem tfk340 : (opAppend tgn126 40).1 = .inl 44 := by decide +kernel
theorem tfk341 : eqG (opAppend tgn126 40).2 tgn127 = true := by decide +kernel
theorem tfk342 : (opAppend tgn127 40).1 = .inl 45 := by decide +kernel
theorem tfk343 : eqG (opAppend tgn127 40).2 tgn128 = true := by decide +kernel
theorem tfk344 : (opAppend tgn128 40).1 = .inl 46 := by decide +kernel
theorem tfk345 : eqG (opAppend tgn128 40).2 tgn129 = true := by decide +kernel
theorem tfk346 : (opAppend tgn129 40).1 = .inl 47 := by decide +kernel
theorem tfk347 : eqG (opAppend tgn129 40).2 tgn130 = true := by decide +kernel
theorem tfk348 : (opAppend tgn130 40).1 = .inl 48 := by decide +kernel
theorem tfk349 : eqG (opAppend tgn130 40).2 tgn131 = true := by decide +kernel
theorem tfk350 : (opAppend tgn131 40).1 = .inl 49 := by decide +kernel
theorem tfk351 : eqG (opAppend tgn131 40).2 tgn132 = true := by decide +kernel
theorem tfk352 : (opAppend tgn132 40).1 = .inl 50 := by decide +kernel
theorem tfk353 : eqG (opAppend tgn132 40).2 tgn133 = true := by decide +kernel
theorem tfk354 : (opAppend tgn133 40).1 = .inl 51 := by decide +kernel
theorem tfk355 : eqG (opAppend tgn133 40).2 tgn134 = true := by decide +kernel
theorem tfk356 : (opAppend tgn134 40).1 = .inl 52 := by decide +kernel
theorem tfk357 : eqG (opAppend tgn134 40).2 tgn135 = true := by decide +kernel
theorem tfk358 : (opAppend tgn135 40).1 = .inl 53 := by decide +kernel
theorem tfk359 : eqG (opAppend tgn135 40).2 tgn136 = true := by decide +kernel
theorem tfk360 : (opAppend tgn136 40).1 = .inl 54 := by decide +kernel
theorem tfk361 : eqG (opAppend tgn136 40).2 tgn137 = true := by decide +kernel
theorem tfk362 : (opAppend tgn137 40).1 = .inl 55 := by decide +kernel
theorem tfk363 : eqG (opAppend tgn137 40).2 tgn138 = true := by decide +kernel
theorem tfk364 : (opAppend tgn138 40).1 = .inl 56 := by decide +kernel
theorem tfk365 : eqG (opAppend tgn138 40).2 tgn139 = true := by decide +kernel
theorem tfk366 : (opAppend tgn139 97).1 = .inl 57 := by decide +kernel
theorem tfk367 : eqG (opAppend tgn139 97).2 tgn140 = true := by decide +kernel
theorem tfk368 : (opAppend tgn140 60).1 = .inl 58 := by decide +kernel
theorem tfk369 : eqG (opAppend tgn140 60).2 tgn141 = true := by decide +kernel
theorem tfk370 : (opAppend tgn141 57).1 = .inl 59 := by decide +kernel
theorem tfk371 : eqG (opAppend tgn141 57).2 tgn142 = true := by decide +kernel
theorem tfk372 : (opAppend tgn142 41).1 = .inl 60 := by decide +kernel
theorem tfk373 : eqG (opAppend tgn142 41).2 tgn143 = true := by decide +kernel
theorem tfk374 : errV tgn143 = 60 := by decide +kernel
theorem tfk375 : (opDefine tgn143 0).1 = .inr 1 := by decide +kernel
theorem tfk376 : (opClear tgn143).1 = 60 := by decide +kernel
theorem tfk377 : eqG (opClear tgn143).2 tgn83 = true := by decide +kernel
theorem tfk378 : (opUndo tgn83).1 = .inl 0 := by decide +kernel
theorem tfk379 : eqG (opUndo tgn83).2 tgn0 = true := by decide +kernel
theorem tfk380 : opCount tgn0 2 = .inl 0 := by decide +kernel
end TXF
