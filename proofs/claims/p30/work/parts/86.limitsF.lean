/-! limits: the states of its run, and what is true of them -/
section LMF
def lan0 : Abs := mkA [] [] [[], [], [], [], [], [], [], []] 0
def lgn0 : Gst := (lan0, [], kpO none none, [])
def lan1 : Abs := mkA [] [[0, 99, -1, 0]] [[], [], [], [], [], [], [], []] 0
def lgn1 : Gst := (lan1, [lan0], kpO none none, [])
def lan2 : Abs := mkA [] [[0, 99, -1, 0], [1, 98, -1, 1]] [[], [], [], [], [], [], [], []] 0
def lgn2 : Gst := (lan2, [lan0, lan1], kpO none none, [])
def lan3 : Abs := mkA [] [[0, 99, -1, 0], [1, 98, -1, 1], [2, 97, -1, 2]] [[], [], [], [], [], [], [], []] 0
def lgn3 : Gst := (lan3, [lan0, lan1, lan2], kpO none none, [])
def lan4 : Abs := mkA [] [[0, 99, -1, 0], [1, 98, -1, 1], [2, 97, -1, 2], [3, 96, -1, 0]] [[], [], [], [], [], [], [], []] 0
def lgn4 : Gst := (lan4, [lan0, lan1, lan2, lan3], kpO none none, [])
def lan5 : Abs := mkA [] [[0, 99, -1, 0], [1, 98, -1, 1], [2, 97, -1, 2], [3, 96, -1, 0], [4, 95, -1, 1]] [[], [], [], [], [], [], [], []] 0
def lgn5 : Gst := (lan5, [lan0, lan1, lan2, lan3, lan4], kpO none none, [])
def lan6 : Abs := mkA [] [[0, 99, -1, 0], [1, 98, -1, 1], [2, 97, -1, 2], [3, 96, -1, 0], [4, 95, -1, 1], [5, 94, -1, 2]] [[], [], [], [], [], [], [], []] 0
def lgn6 : Gst := (lan6, [lan0, lan1, lan2, lan3, lan4, lan5], kpO none none, [])
def lan7 : Abs := mkA [] [[0, 99, -1, 0], [1, 98, -1, 1], [2, 97, -1, 2], [3, 96, -1, 0], [4, 95, -1, 1], [5, 94, -1, 2], [6, 93, -1, 0]] [[], [], [], [], [], [], [], []] 0
def lgn7 : Gst := (lan7, [lan1, lan2, lan3, lan4, lan5, lan6], kpO none none, [])
def lan8 : Abs := mkA [] [[0, 99, -1, 0], [1, 98, -1, 1], [2, 97, -1, 2], [3, 96, -1, 0], [4, 95, -1, 1], [5, 94, -1, 2], [6, 93, -1, 0], [7, 92, -1, 1]] [[], [], [], [], [], [], [], []] 0
def lgn8 : Gst := (lan8, [lan2, lan3, lan4, lan5, lan6, lan7], kpO none none, [])
def lan9 : Abs := mkA [] [[0, 99, -1, 0], [1, 98, -1, 1], [2, 97, -1, 2], [3, 96, -1, 0], [4, 95, -1, 1], [5, 94, -1, 2], [6, 93, -1, 0], [7, 92, -1, 1], [8, 91, -1, 2]] [[], [], [], [], [], [], [], []] 0
def lgn9 : Gst := (lan9, [lan3, lan4, lan5, lan6, lan7, lan8], kpO none none, [])
def lan10 : Abs := mkA [] [[0, 99, -1, 0], [1, 98, -1, 1], [2, 97, -1, 2], [3, 96, -1, 0], [4, 95, -1, 1], [5, 94, -1, 2], [6, 93, -1, 0], [7, 92, -1, 1], [8, 91, -1, 2], [9, 90, -1, 0]] [[], [], [], [], [], [], [], []] 0
def lgn10 : Gst := (lan10, [lan4, lan5, lan6, lan7, lan8, lan9], kpO none none, [])
def lan11 : Abs := mkA [] [[0, 99, -1, 0], [1, 98, -1, 1], [2, 97, -1, 2], [3, 96, -1, 0], [4, 95, -1, 1], [5, 94, -1, 2], [6, 93, -1, 0], [7, 92, -1, 1], [8, 91, -1, 2], [9, 90, -1, 0], [10, 89, -1, 1]] [[], [], [], [], [], [], [], []] 0
def lgn11 : Gst := (lan11, [lan5, lan6, lan7, lan8, lan9, lan10], kpO none none, [])
def lan12 : Abs := mkA [] [[0, 99, -1, 0], [1, 98, -1, 1], [2, 97, -1, 2], [3, 96, -1, 0], [4, 95, -1, 1], [5, 94, -1, 2], [6, 93, -1, 0], [7, 92, -1, 1], [8, 91, -1, 2], [9, 90, -1, 0], [10, 89, -1, 1], [11, 88, -1, 2]] [[], [], [], [], [], [], [], []] 0
def lgn12 : Gst := (lan12, [lan6, lan7, lan8, lan9, lan10, lan11], kpO none none, [])
def lan13 : Abs := mkA [] [[0, 99, -1, 0], [1, 98, -1, 1], [2, 97, -1, 2], [3, 96, -1, 0], [4, 95, -1, 1], [5, 94, -1, 2], [6, 93, -1, 0], [7, 92, -1, 1], [8, 91, -1, 2], [9, 90, -1, 0], [10, 89, -1, 1], [11, 88, -1, 2], [12, 87, -1, 0]] [[], [], [], [], [], [], [], []] 0
def lgn13 : Gst := (lan13, [lan7, lan8, lan9, lan10, lan11, lan12], kpO none none, [])
def lan14 : Abs := mkA [] [[0, 99, -1, 0], [1, 98, -1, 1], [2, 97, -1, 2], [3, 96, -1, 0], [4, 95, -1, 1], [5, 94, -1, 2], [6, 93, -1, 0], [7, 92, -1, 1], [8, 91, -1, 2], [9, 90, -1, 0], [10, 89, -1, 1], [11, 88, -1, 2], [12, 87, -1, 0], [13, 86, -1, 1]] [[], [], [], [], [], [], [], []] 0
def lgn14 : Gst := (lan14, [lan8, lan9, lan10, lan11, lan12, lan13], kpO none none, [])
def lan15 : Abs := mkA [] [[0, 99, -1, 0], [1, 98, -1, 1], [2, 97, -1, 2], [3, 96, -1, 0], [4, 95, -1, 1], [5, 94, -1, 2], [6, 93, -1, 0], [7, 92, -1, 1], [8, 91, -1, 2], [9, 90, -1, 0], [10, 89, -1, 1], [11, 88, -1, 2], [12, 87, -1, 0], [13, 86, -1, 1], [14, 85, -1, 2]] [[], [], [], [], [], [], [], []] 0
def lgn15 : Gst := (lan15, [lan9, lan10, lan11, lan12, lan13, lan14], kpO none none, [])
def lan16 : Abs := mkA [] [[0, 99, -1, 0], [1, 98, -1, 1], [2, 97, -1, 2], [3, 96, -1, 0], [4, 95, -1, 1], [5, 94, -1, 2], [6, 93, -1, 0], [7, 92, -1, 1], [8, 91, -1, 2], [9, 90, -1, 0], [10, 89, -1, 1], [11, 88, -1, 2], [12, 87, -1, 0], [13, 86, -1, 1], [14, 85, -1, 2], [15, 84, -1, 0]] [[], [], [], [], [], [], [], []] 0
def lgn16 : Gst := (lan16, [lan10, lan11, lan12, lan13, lan14, lan15], kpO none none, [])
def lgn17 : Gst := (lan16, [lan10, lan11, lan12, lan13, lan14, lan15], kpO none none, [97, 60, 98, 124, 100, 61, 49])
def lan17 : Abs := mkA [] [[0, 99, -1, 0], [1, 98, -1, 1], [2, 97, -1, 2], [3, 96, -1, 0], [4, 95, -1, 1], [5, 94, -1, 2], [6, 93, -1, 0], [7, 92, -1, 1], [8, 91, -1, 2], [9, 90, -1, 0], [10, 89, -1, 1], [11, 88, -1, 2], [12, 87, -1, 0], [13, 86, -1, 1], [14, 85, -1, 2], [15, 84, -1, 0]] [[2105, 13005, 2], [], [], [], [], [], [], []] 0
def lgn18 : Gst := (lan17, [lan11, lan12, lan13, lan14, lan15, lan16], kpO none none, [])
def lgn19 : Gst := (lan17, [lan11, lan12, lan13, lan14, lan15, lan16], kpO none none, [97, 62, 100, 38, 100, 62, 48])
def lan18 : Abs := mkA [] [[0, 99, -1, 0], [1, 98, -1, 1], [2, 97, -1, 2], [3, 96, -1, 0], [4, 95, -1, 1], [5, 94, -1, 2], [6, 93, -1, 0], [7, 92, -1, 1], [8, 91, -1, 2], [9, 90, -1, 0], [10, 89, -1, 1], [11, 88, -1, 2], [12, 87, -1, 0], [13, 86, -1, 1], [14, 85, -1, 2], [15, 84, -1, 0]] [[2105, 13005, 2], [3107, 15004, 1], [], [], [], [], [], []] 0
def lgn20 : Gst := (lan18, [lan12, lan13, lan14, lan15, lan16, lan17], kpO none none, [])
def lgn21 : Gst := (lan18, [lan12, lan13, lan14, lan15, lan16, lan17], kpO none none, [97, 63, 38, 40, 98, 63, 38, 99, 63, 41])
def lan19 : Abs := mkA [] [[0, 99, -1, 0], [1, 98, -1, 1], [2, 97, -1, 2], [3, 96, -1, 0], [4, 95, -1, 1], [5, 94, -1, 2], [6, 93, -1, 0], [7, 92, -1, 1], [8, 91, -1, 2], [9, 90, -1, 0], [10, 89, -1, 1], [11, 88, -1, 2], [12, 87, -1, 0], [13, 86, -1, 1], [14, 85, -1, 2], [15, 84, -1, 0]] [[2105, 13005, 2], [3107, 15004, 1], [4, 4004, 8004, 1, 1], [], [], [], [], []] 0
def lgn22 : Gst := (lan19, [lan13, lan14, lan15, lan16, lan17, lan18], kpO none none, [])
def lgn23 : Gst := (lan19, [lan13, lan14, lan15, lan16, lan17, lan18], kpO none none, [40, 97, 63, 38, 98, 63, 41, 38, 99, 63])
def lan20 : Abs := mkA [] [[0, 99, -1, 0], [1, 98, -1, 1], [2, 97, -1, 2], [3, 96, -1, 0], [4, 95, -1, 1], [5, 94, -1, 2], [6, 93, -1, 0], [7, 92, -1, 1], [8, 91, -1, 2], [9, 90, -1, 0], [10, 89, -1, 1], [11, 88, -1, 2], [12, 87, -1, 0], [13, 86, -1, 1], [14, 85, -1, 2], [15, 84, -1, 0]] [[2105, 13005, 2], [3107, 15004, 1], [4, 4004, 1, 8004, 1], [], [], [], [], []] 0
def lgn24 : Gst := (lan20, [lan14, lan15, lan16, lan17, lan18, lan19], kpO none none, [])
def lgn25 : Gst := (lan20, [lan14, lan15, lan16, lan17, lan18, lan19], kpO none none, [97, 63, 124, 40, 98, 63, 124, 40, 99, 63, 41, 41])
def lan21 : Abs := mkA [] [[0, 99, -1, 0], [1, 98, -1, 1], [2, 97, -1, 2], [3, 96, -1, 0], [4, 95, -1, 1], [5, 94, -1, 2], [6, 93, -1, 0], [7, 92, -1, 1], [8, 91, -1, 2], [9, 90, -1, 0], [10, 89, -1, 1], [11, 88, -1, 2], [12, 87, -1, 0], [13, 86, -1, 1], [14, 85, -1, 2], [15, 84, -1, 0]] [[2105, 13005, 2], [3107, 15004, 1], [4, 4004, 8004, 2, 2], [], [], [], [], []] 0
def lgn26 : Gst := (lan21, [lan15, lan16, lan17, lan18, lan19, lan20], kpO none none, [])
def lgn27 : Gst := (lan21, [lan15, lan16, lan17, lan18, lan19, lan20], kpO none none, [40, 33, 40, 97, 63, 41, 41, 38, 98, 63])
def lan22 : Abs := mkA [] [[0, 99, -1, 0], [1, 98, -1, 1], [2, 97, -1, 2], [3, 96, -1, 0], [4, 95, -1, 1], [5, 94, -1, 2], [6, 93, -1, 0], [7, 92, -1, 1], [8, 91, -1, 2], [9, 90, -1, 0], [10, 89, -1, 1], [11, 88, -1, 2], [12, 87, -1, 0], [13, 86, -1, 1], [14, 85, -1, 2], [15, 84, -1, 0]] [[2105, 13005, 2], [3107, 15004, 1], [4, 0, 4004, 1], [], [], [], [], []] 0
def lgn28 : Gst := (lan22, [lan16, lan17, lan18, lan19, lan20, lan21], kpO none none, [])
def lgn29 : Gst := (lan22, [lan16, lan17, lan18, lan19, lan20, lan21], kpO none none, [33, 40, 33, 40, 97, 63, 38, 98, 63, 41, 41])
def lan23 : Abs := mkA [] [[0, 99, -1, 0], [1, 98, -1, 1], [2, 97, -1, 2], [3, 96, -1, 0], [4, 95, -1, 1], [5, 94, -1, 2], [6, 93, -1, 0], [7, 92, -1, 1], [8, 91, -1, 2], [9, 90, -1, 0], [10, 89, -1, 1], [11, 88, -1, 2], [12, 87, -1, 0], [13, 86, -1, 1], [14, 85, -1, 2], [15, 84, -1, 0]] [[2105, 13005, 2], [3107, 15004, 1], [4, 4004, 1, 0, 0], [], [], [], [], []] 0
def lgn30 : Gst := (lan23, [lan17, lan18, lan19, lan20, lan21, lan22], kpO none none, [])
def lgn31 : Gst := (lan23, [lan17, lan18, lan19, lan20, lan21, lan22], kpO none none, [97, 63, 124, 40, 98, 63, 38, 99, 63, 41, 124, 100, 63])
def lan24 : Abs := mkA [] [[0, 99, -1, 0], [1, 98, -1, 1], [2, 97, -1, 2], [3, 96, -1, 0], [4, 95, -1, 1], [5, 94, -1, 2], [6, 93, -1, 0], [7, 92, -1, 1], [8, 91, -1, 2], [9, 90, -1, 0], [10, 89, -1, 1], [11, 88, -1, 2], [12, 87, -1, 0], [13, 86, -1, 1], [14, 85, -1, 2], [15, 84, -1, 0]] [[2105, 13005, 2], [3107, 15004, 1], [4, 4004, 8004, 1, 2, 12004, 2], [], [], [], [], []] 0
def lgn32 : Gst := (lan24, [lan18, lan19, lan20, lan21, lan22, lan23], kpO none none, [])
def lgn33 : Gst := (lan24, [lan18, lan19, lan20, lan21, lan22, lan23], kpO none none, [40, 97, 63, 124, 98, 61, 48, 41, 38, 40, 99, 63, 41])
def lan25 : Abs := mkA [] [[0, 99, -1, 0], [1, 98, -1, 1], [2, 97, -1, 2], [3, 96, -1, 0], [4, 95, -1, 1], [5, 94, -1, 2], [6, 93, -1, 0], [7, 92, -1, 1], [8, 91, -1, 2], [9, 90, -1, 0], [10, 89, -1, 1], [11, 88, -1, 2], [12, 87, -1, 0], [13, 86, -1, 1], [14, 85, -1, 2], [15, 84, -1, 0]] [[2105, 13005, 2], [3107, 15004, 1], [4, 5004, 2, 8004, 1], [], [], [], [], []] 0
def lgn34 : Gst := (lan25, [lan19, lan20, lan21, lan22, lan23, lan24], kpO none none, [])
def lgn35 : Gst := (lan25, [lan19, lan20, lan21, lan22, lan23, lan24], kpO none none, [97, 61, 49])
def lan26 : Abs := mkA [] [[0, 99, -1, 0], [1, 98, -1, 1], [2, 97, -1, 2], [3, 96, -1, 0], [4, 95, -1, 1], [5, 94, -1, 2], [6, 93, -1, 0], [7, 92, -1, 1], [8, 91, -1, 2], [9, 90, -1, 0], [10, 89, -1, 1], [11, 88, -1, 2], [12, 87, -1, 0], [13, 86, -1, 1], [14, 85, -1, 2], [15, 84, -1, 0]] [[2105, 13005, 2], [3107, 15004, 1], [4, 5004, 2, 8004, 1], [1005], [], [], [], []] 0
def lgn36 : Gst := (lan26, [lan20, lan21, lan22, lan23, lan24, lan25], kpO none none, [])
def lan27 : Abs := mkA [] [[0, 99, -1, 0], [1, 98, -1, 1], [2, 97, -1, 2], [3, 96, -1, 0], [4, 95, -1, 1], [5, 94, -1, 2], [6, 93, -1, 0], [7, 92, -1, 1], [8, 91, -1, 2], [9, 90, -1, 0], [10, 89, -1, 1], [11, 88, -1, 2], [12, 87, -1, 0], [13, 86, -1, 1], [14, 85, -1, 2], [15, 84, -1, 0]] [[2105, 13005, 2], [3107, 15004, 1], [4, 5004, 2, 8004, 1], [1005, 2105, 13005, 2, 2], [], [], [], []] 0
def lgn37 : Gst := (lan27, [lan21, lan22, lan23, lan24, lan25, lan26], kpO none none, [])
def lan28 : Abs := mkA [] [[0, 99, -1, 0], [1, 98, -1, 1], [2, 97, -1, 2], [3, 96, -1, 0], [4, 95, -1, 1], [5, 94, -1, 2], [6, 93, -1, 0], [7, 92, -1, 1], [8, 91, -1, 2], [9, 90, -1, 0], [10, 89, -1, 1], [11, 88, -1, 2], [12, 87, -1, 0], [13, 86, -1, 1], [14, 85, -1, 2], [15, 84, -1, 0]] [[2105, 13005, 2], [3107, 15004, 1], [4, 5004, 2, 8004, 1], [1005, 2105, 13005, 2, 2, 2105, 13005, 2, 2], [], [], [], []] 0
def lgn38 : Gst := (lan28, [lan22, lan23, lan24, lan25, lan26, lan27], kpO none none, [])
def lan29 : Abs := mkA [] [[0, 99, -1, 0], [1, 98, -1, 1], [2, 97, -1, 2], [3, 96, -1, 0], [4, 95, -1, 1], [5, 94, -1, 2], [6, 93, -1, 0], [7, 92, -1, 1], [8, 91, -1, 2], [9, 90, -1, 0], [10, 89, -1, 1], [11, 88, -1, 2], [12, 87, -1, 0], [13, 86, -1, 1], [14, 85, -1, 2], [15, 84, -1, 0]] [[2105, 13005, 2], [3107, 15004, 1], [4, 5004, 2, 8004, 1], [1005, 2105, 13005, 2, 2, 2105, 13005, 2, 2, 2105, 13005, 2, 2], [], [], [], []] 0
def lgn39 : Gst := (lan29, [lan23, lan24, lan25, lan26, lan27, lan28], kpO none none, [])
def lan30 : Abs := mkA [] [[0, 99, -1, 0], [1, 98, -1, 1], [2, 97, -1, 2], [3, 96, -1, 0], [4, 95, -1, 1], [5, 94, -1, 2], [6, 93, -1, 0], [7, 92, -1, 1], [8, 91, -1, 2], [9, 90, -1, 0], [10, 89, -1, 1], [11, 88, -1, 2], [12, 87, -1, 0], [13, 86, -1, 1], [14, 85, -1, 2], [15, 84, -1, 0]] [[2105, 13005, 2], [3107, 15004, 1], [4, 5004, 2, 8004, 1], [1005, 2105, 13005, 2, 2, 2105, 13005, 2, 2, 2105, 13005, 2, 2, 2105, 13005, 2, 2], [], [], [], []] 0
def lgn40 : Gst := (lan30, [lan24, lan25, lan26, lan27, lan28, lan29], kpO none none, [])
def lan31 : Abs := mkA [] [[0, 99, -1, 0], [1, 98, -1, 1], [2, 97, -1, 2], [3, 96, -1, 0], [4, 95, -1, 1], [5, 94, -1, 2], [6, 93, -1, 0], [7, 92, -1, 1], [8, 91, -1, 2], [9, 90, -1, 0], [10, 89, -1, 1], [11, 88, -1, 2], [12, 87, -1, 0], [13, 86, -1, 1], [14, 85, -1, 2], [15, 84, -1, 0]] [[2105, 13005, 2], [3107, 15004, 1], [4, 5004, 2, 8004, 1], [1005, 2105, 13005, 2, 2, 2105, 13005, 2, 2, 2105, 13005, 2, 2, 2105, 13005, 2, 2, 2105, 13005, 2, 2], [], [], [], []] 0
def lgn41 : Gst := (lan31, [lan25, lan26, lan27, lan28, lan29, lan30], kpO none none, [])
def lan32 : Abs := mkA [] [[0, 99, -1, 0], [1, 98, -1, 1], [2, 97, -1, 2], [3, 96, -1, 0], [4, 95, -1, 1], [5, 94, -1, 2], [6, 93, -1, 0], [7, 92, -1, 1], [8, 91, -1, 2], [9, 90, -1, 0], [10, 89, -1, 1], [11, 88, -1, 2], [12, 87, -1, 0], [13, 86, -1, 1], [14, 85, -1, 2], [15, 84, -1, 0]] [[2105, 13005, 2], [3107, 15004, 1], [4, 5004, 2, 8004, 1], [1005, 2105, 13005, 2, 2, 2105, 13005, 2, 2, 2105, 13005, 2, 2, 2105, 13005, 2, 2, 2105, 13005, 2, 2, 2105, 13005, 2, 2], [], [], [], []] 0
def lgn42 : Gst := (lan32, [lan26, lan27, lan28, lan29, lan30, lan31], kpO none none, [])
def lan33 : Abs := mkA [] [[0, 99, -1, 0], [1, 98, -1, 1], [2, 97, -1, 2], [3, 96, -1, 0], [4, 95, -1, 1], [5, 94, -1, 2], [6, 93, -1, 0], [7, 92, -1, 1], [8, 91, -1, 2], [9, 90, -1, 0], [10, 89, -1, 1], [11, 88, -1, 2], [12, 87, -1, 0], [13, 86, -1, 1], [14, 85, -1, 2], [15, 84, -1, 0]] [[2105, 13005, 2], [3107, 15004, 1], [4, 5004, 2, 8004, 1], [1005, 2105, 13005, 2, 2, 2105, 13005, 2, 2, 2105, 13005, 2, 2, 2105, 13005, 2, 2, 2105, 13005, 2, 2, 2105, 13005, 2, 2, 2105, 13005, 2, 2], [], [], [], []] 0
def lgn43 : Gst := (lan33, [lan27, lan28, lan29, lan30, lan31, lan32], kpO none none, [])
def lan34 : Abs := mkA [] [[0, 99, -1, 0], [1, 98, -1, 1], [2, 97, -1, 2], [3, 96, -1, 0], [4, 95, -1, 1], [5, 94, -1, 2], [6, 93, -1, 0], [7, 92, -1, 1], [8, 91, -1, 2], [9, 90, -1, 0], [10, 89, -1, 1], [11, 88, -1, 2], [12, 87, -1, 0], [13, 86, -1, 1], [14, 85, -1, 2], [15, 84, -1, 0]] [[2105, 13005, 2], [3107, 15004, 1], [4, 5004, 2, 8004, 1], [1005, 2105, 13005, 2, 2, 2105, 13005, 2, 2, 2105, 13005, 2, 2, 2105, 13005, 2, 2, 2105, 13005, 2, 2, 2105, 13005, 2, 2, 2105, 13005, 2, 2, 2105, 13005, 2, 2], [], [], [], []] 0
def lgn44 : Gst := (lan34, [lan28, lan29, lan30, lan31, lan32, lan33], kpO none none, [])
def lan35 : Abs := mkA [] [[0, 99, -1, 0], [1, 98, -1, 1], [2, 97, -1, 2], [3, 96, -1, 0], [4, 95, -1, 1], [5, 94, -1, 2], [6, 93, -1, 0], [7, 92, -1, 1], [8, 91, -1, 2], [9, 90, -1, 0], [10, 89, -1, 1], [11, 88, -1, 2], [12, 87, -1, 0], [13, 86, -1, 1], [14, 85, -1, 2], [15, 84, -1, 0]] [[2105, 13005, 2], [3107, 15004, 1], [4, 5004, 2, 8004, 1], [1005, 2105, 13005, 2, 2, 2105, 13005, 2, 2, 2105, 13005, 2, 2, 2105, 13005, 2, 2, 2105, 13005, 2, 2, 2105, 13005, 2, 2, 2105, 13005, 2, 2, 2105, 13005, 2, 2, 2105, 13005, 2, 2], [], [], [], []] 0
def lgn45 : Gst := (lan35, [lan29, lan30, lan31, lan32, lan33, lan34], kpO none none, [])
def lan36 : Abs := mkA [] [[0, 99, -1, 0], [1, 98, -1, 1], [2, 97, -1, 2], [3, 96, -1, 0], [4, 95, -1, 1], [5, 94, -1, 2], [6, 93, -1, 0], [7, 92, -1, 1], [8, 91, -1, 2], [9, 90, -1, 0], [10, 89, -1, 1], [11, 88, -1, 2], [12, 87, -1, 0], [13, 86, -1, 1], [14, 85, -1, 2], [15, 84, -1, 0]] [[2105, 13005, 2], [3107, 15004, 1], [4, 5004, 2, 8004, 1], [1005, 2105, 13005, 2, 2, 2105, 13005, 2, 2, 2105, 13005, 2, 2, 2105, 13005, 2, 2, 2105, 13005, 2, 2, 2105, 13005, 2, 2, 2105, 13005, 2, 2, 2105, 13005, 2, 2, 2105, 13005, 2, 2, 0], [], [], [], []] 0
def lgn46 : Gst := (lan36, [lan30, lan31, lan32, lan33, lan34, lan35], kpO none none, [])
theorem lfk0 : eqG gst0 lgn0 = true := by decide +kernel
theorem lfk1 : (opAdd lgn0 1 0 99 (-1) 0).1 = .inl 0 := by decide +kernel
theorem lfk2 : eqG (opAdd lgn0 1 0 99 (-1) 0).2 lgn1 = true := by decide +kernel
theorem lfk3 : (opAdd lgn1 1 1 98 (-1) 1).1 = .inl 1 := by decide +kernel
theorem lfk4 : eqG (opAdd lgn1 1 1 98 (-1) 1).2 lgn2 = true := by decide +kernel
theorem lfk5 : (opAdd lgn2 1 2 97 (-1) 2).1 = .inl 2 := by decide +kernel
theorem lfk6 : eqG (opAdd lgn2 1 2 97 (-1) 2).2 lgn3 = true := by decide +kernel
theorem lfk7 : (opAdd lgn3 1 3 96 (-1) 0).1 = .inl 3 := by decide +kernel
theorem lfk8 : eqG (opAdd lgn3 1 3 96 (-1) 0).2 lgn4 = true := by decide +kernel
theorem lfk9 : (opAdd lgn4 1 4 95 (-1) 1).1 = .inl 4 := by decide +kernel
theorem lfk10 : eqG (opAdd lgn4 1 4 95 (-1) 1).2 lgn5 = true := by decide +kernel
theorem lfk11 : (opAdd lgn5 1 5 94 (-1) 2).1 = .inl 5 := by decide +kernel
theorem lfk12 : eqG (opAdd lgn5 1 5 94 (-1) 2).2 lgn6 = true := by decide +kernel
theorem lfk13 : (opAdd lgn6 1 6 93 (-1) 0).1 = .inl 6 := by decide +kernel
theorem lfk14 : eqG (opAdd lgn6 1 6 93 (-1) 0).2 lgn7 = true := by decide +kernel
theorem lfk15 : (opAdd lgn7 1 7 92 (-1) 1).1 = .inl 7 := by decide +kernel
theorem lfk16 : eqG (opAdd lgn7 1 7 92 (-1) 1).2 lgn8 = true := by decide +kernel
theorem lfk17 : (opAdd lgn8 1 8 91 (-1) 2).1 = .inl 8 := by decide +kernel
theorem lfk18 : eqG (opAdd lgn8 1 8 91 (-1) 2).2 lgn9 = true := by decide +kernel
theorem lfk19 : (opAdd lgn9 1 9 90 (-1) 0).1 = .inl 9 := by decide +kernel
theorem lfk20 : eqG (opAdd lgn9 1 9 90 (-1) 0).2 lgn10 = true := by decide +kernel
theorem lfk21 : (opAdd lgn10 1 10 89 (-1) 1).1 = .inl 10 := by decide +kernel
theorem lfk22 : eqG (opAdd lgn10 1 10 89 (-1) 1).2 lgn11 = true := by decide +kernel
theorem lfk23 : (opAdd lgn11 1 11 88 (-1) 2).1 = .inl 11 := by decide +kernel
theorem lfk24 : eqG (opAdd lgn11 1 11 88 (-1) 2).2 lgn12 = true := by decide +kernel
theorem lfk25 : (opAdd lgn12 1 12 87 (-1) 0).1 = .inl 12 := by decide +kernel
theorem lfk26 : eqG (opAdd lgn12 1 12 87 (-1) 0).2 lgn13 = true := by decide +kernel
theorem lfk27 : (opAdd lgn13 1 13 86 (-1) 1).1 = .inl 13 := by decide +kernel
theorem lfk28 : eqG (opAdd lgn13 1 13 86 (-1) 1).2 lgn14 = true := by decide +kernel
theorem lfk29 : (opAdd lgn14 1 14 85 (-1) 2).1 = .inl 14 := by decide +kernel
theorem lfk30 : eqG (opAdd lgn14 1 14 85 (-1) 2).2 lgn15 = true := by decide +kernel
theorem lfk31 : (opAdd lgn15 1 15 84 (-1) 0).1 = .inl 15 := by decide +kernel
theorem lfk32 : eqG (opAdd lgn15 1 15 84 (-1) 0).2 lgn16 = true := by decide +kernel
theorem lfk33 : (opAdd lgn16 1 0 (dcC 500500500) (dcD 500500500) (dcE 500500500)).1 = .inr 2 := by decide +kernel
theorem lfk34 : (opAdd lgn16 1 100 (dcC 500500500) (dcD 500500500) (dcE 500500500)).1 = .inr 1 := by decide +kernel
theorem lfk35 : opColumn lgn16.1 1 0 2 = .inl 120 := by decide +kernel
theorem lfk36 : opColumn lgn16.1 1 0 6 = .inl 7 := by decide +kernel
theorem lfk37 : opColumn lgn16.1 1 1 6 = .inl 91 := by decide +kernel
theorem lfk38 : opColumn lgn16.1 1 3 5 = .inl 3 := by decide +kernel
theorem lfk39 : opGroup lgn16.1 1 3 0 1 = .inl 37449 := by decide +kernel
theorem lfk40 : opGroup lgn16.1 1 3 2 6 = .inl 5 := by decide +kernel
theorem lfk41 : opGroup lgn16.1 1 2 0 6 = .inl 16 := by decide +kernel
theorem lfk42 : opColumn lgn16.1 1 2 4 = .inl (-2) := by decide +kernel
theorem lfk43 : tyK 27369466432339249 8 0 = true := by decide +kernel
theorem lfk44 : tyL 27369466432339249 8 [] = [97, 60, 98, 124, 100, 61, 49] := by decide +kernel
theorem lfk45 : tyK 0 8 [97, 60, 98, 124, 100, 61, 49].length = true := by decide +kernel
theorem lfk46 : tyL 0 8 [97, 60, 98, 124, 100, 61, 49] = [97, 60, 98, 124, 100, 61, 49] := by decide +kernel
theorem lfk47 : (opDefine lgn17 0).1 = .inl 3 := by decide +kernel
theorem lfk48 : eqG (opDefine lgn17 0).2 lgn18 = true := by decide +kernel
theorem lfk49 : opRows lgn18.1 1 0 2 1 = .inl 65535 := by decide +kernel
theorem lfk50 : tyK 27371672602689072 8 0 = true := by decide +kernel
theorem lfk51 : tyL 27371672602689072 8 [] = [97, 62, 100, 38, 100, 62, 48] := by decide +kernel
theorem lfk52 : tyK 0 8 [97, 62, 100, 38, 100, 62, 48].length = true := by decide +kernel
theorem lfk53 : tyL 0 8 [97, 62, 100, 38, 100, 62, 48] = [97, 62, 100, 38, 100, 62, 48] := by decide +kernel
theorem lfk54 : (opDefine lgn19 1).1 = .inl 3 := by decide +kernel
theorem lfk55 : eqG (opDefine lgn19 1).2 lgn20 = true := by decide +kernel
theorem lfk56 : opRows lgn20.1 1 1 2 0 = .inl 28080 := by decide +kernel
theorem lfk57 : opRows lgn20.1 1 1 0 1 = .inl 37455 := by decide +kernel
theorem lfk58 : tyK 7007361500100634211 8 0 = true := by decide +kernel
theorem lfk59 : tyL 7007361500100634211 8 [] = [97, 63, 38, 40, 98, 63, 38, 99] := by decide +kernel
theorem lfk60 : tyK 16169 8 [97, 63, 38, 40, 98, 63, 38, 99].length = true := by decide +kernel
theorem lfk61 : tyL 16169 8 [97, 63, 38, 40, 98, 63, 38, 99] = [97, 63, 38, 40, 98, 63, 38, 99, 63, 41] := by decide +kernel
theorem lfk62 : (opDefine lgn21 2).1 = .inl 5 := by decide +kernel
theorem lfk63 : eqG (opDefine lgn21 2).2 lgn22 = true := by decide +kernel
theorem lfk64 : wrK lgn22.1 2 7007361500100634211 16169 16 0 0 = true := by decide +kernel
theorem lfk65 : opFilter lgn22.1 2 1 = .inl 3 := by decide +kernel
theorem lfk66 : tyK 2909676268347664678 8 0 = true := by decide +kernel
theorem lfk67 : tyL 2909676268347664678 8 [] = [40, 97, 63, 38, 98, 63, 41, 38] := by decide +kernel
theorem lfk68 : tyK 25407 8 [40, 97, 63, 38, 98, 63, 41, 38].length = true := by decide +kernel
theorem lfk69 : tyL 25407 8 [40, 97, 63, 38, 98, 63, 41, 38] = [40, 97, 63, 38, 98, 63, 41, 38, 99, 63] := by decide +kernel
theorem lfk70 : (opDefine lgn23 2).1 = .inl 5 := by decide +kernel
theorem lfk71 : eqG (opDefine lgn23 2).2 lgn24 = true := by decide +kernel
theorem lfk72 : wrK lgn24.1 2 7007361748619911999 0 16 0 0 = true := by decide +kernel
theorem lfk73 : tyK 7007456058100644904 8 0 = true := by decide +kernel
theorem lfk74 : tyL 7007456058100644904 8 [] = [97, 63, 124, 40, 98, 63, 124, 40] := by decide +kernel
theorem lfk75 : tyK 1665083689 8 [97, 63, 124, 40, 98, 63, 124, 40].length = true := by decide +kernel
theorem lfk76 : tyL 1665083689 8 [97, 63, 124, 40, 98, 63, 124, 40] = [97, 63, 124, 40, 98, 63, 124, 40, 99, 63, 41, 41] := by decide +kernel
theorem lfk77 : (opDefine lgn25 2).1 = .inl 5 := by decide +kernel
theorem lfk78 : eqG (opDefine lgn25 2).2 lgn26 = true := by decide +kernel
theorem lfk79 : wrK lgn26.1 2 7007456058100644963 16169 16 0 0 = true := by decide +kernel
theorem lfk80 : tyK 2891636833885169958 8 0 = true := by decide +kernel
theorem lfk81 : tyL 2891636833885169958 8 [] = [40, 33, 40, 97, 63, 41, 41, 38] := by decide +kernel
theorem lfk82 : tyK 25151 8 [40, 33, 40, 97, 63, 41, 41, 38].length = true := by decide +kernel
theorem lfk83 : tyL 25151 8 [40, 33, 40, 97, 63, 41, 41, 38] = [40, 33, 40, 97, 63, 41, 41, 38, 98, 63] := by decide +kernel
theorem lfk84 : (opDefine lgn27 2).1 = .inl 4 := by decide +kernel
theorem lfk85 : eqG (opDefine lgn27 2).2 lgn28 = true := by decide +kernel
theorem lfk86 : wrK lgn28.1 2 36701555024447 0 16 0 0 = true := by decide +kernel
theorem lfk87 : tyK 2389196059633985122 8 0 = true := by decide +kernel
theorem lfk88 : tyL 2389196059633985122 8 [] = [33, 40, 33, 40, 97, 63, 38, 98] := by decide +kernel
theorem lfk89 : tyK 4139305 8 [33, 40, 33, 40, 97, 63, 38, 98].length = true := by decide +kernel
theorem lfk90 : tyL 4139305 8 [33, 40, 33, 40, 97, 63, 38, 98] = [33, 40, 33, 40, 97, 63, 38, 98, 63, 41, 41] := by decide +kernel
theorem lfk91 : (opDefine lgn29 2).1 = .inl 5 := by decide +kernel
theorem lfk92 : eqG (opDefine lgn29 2).2 lgn30 = true := by decide +kernel
theorem lfk93 : wrK lgn30.1 2 2387233675619492415 41 16 0 0 = true := by decide +kernel
theorem lfk94 : tyK 7007456058100622947 8 0 = true := by decide +kernel
theorem lfk95 : tyL 7007456058100622947 8 [] = [97, 63, 124, 40, 98, 63, 38, 99] := by decide +kernel
theorem lfk96 : tyK 271278957631 8 [97, 63, 124, 40, 98, 63, 38, 99].length = true := by decide +kernel
theorem lfk97 : tyL 271278957631 8 [97, 63, 124, 40, 98, 63, 38, 99] = [97, 63, 124, 40, 98, 63, 38, 99, 63, 41, 124, 100, 63] := by decide +kernel
theorem lfk98 : (opDefine lgn31 2).1 = .inl 7 := by decide +kernel
theorem lfk99 : eqG (opDefine lgn31 2).2 lgn32 = true := by decide +kernel
theorem lfk100 : wrK lgn32.1 2 7007456306619900735 8152127 16 0 0 = true := by decide +kernel
theorem lfk101 : opFilter lgn32.1 2 1 = .inl 4 := by decide +kernel
theorem lfk102 : tyK 2909676637714722857 8 0 = true := by decide +kernel
theorem lfk103 : tyL 2909676637714722857 8 [] = [40, 97, 63, 124, 98, 61, 48, 41] := by decide +kernel
theorem lfk104 : tyK 163886350121 8 [40, 97, 63, 124, 98, 61, 48, 41].length = true := by decide +kernel
theorem lfk105 : tyL 163886350121 8 [40, 97, 63, 124, 98, 61, 48, 41] = [40, 97, 63, 124, 98, 61, 48, 41, 38, 40, 99, 63, 41] := by decide +kernel
theorem lfk106 : (opDefine lgn33 2).1 = .inl 5 := by decide +kernel
theorem lfk107 : eqG (opDefine lgn33 2).2 lgn34 = true := by decide +kernel
theorem lfk108 : wrK lgn34.1 2 2909676637714722857 2515775 16 0 0 = true := by decide +kernel
theorem lfk109 : tyK 6372657 8 0 = true := by decide +kernel
theorem lfk110 : tyL 6372657 8 [] = [97, 61, 49] := by decide +kernel
theorem lfk111 : tyK 0 8 [97, 61, 49].length = true := by decide +kernel
theorem lfk112 : tyL 0 8 [97, 61, 49] = [97, 61, 49] := by decide +kernel
theorem lfk113 : (opDefine lgn35 3).1 = .inl 1 := by decide +kernel
theorem lfk114 : eqG (opDefine lgn35 3).2 lgn36 = true := by decide +kernel
theorem lfk115 : (opCombine lgn36 3 3 0 2).1 = .inl 5 := by decide +kernel
theorem lfk116 : eqG (opCombine lgn36 3 3 0 2).2 lgn37 = true := by decide +kernel
theorem lfk117 : (opCombine lgn37 3 3 0 2).1 = .inl 9 := by decide +kernel
theorem lfk118 : eqG (opCombine lgn37 3 3 0 2).2 lgn38 = true := by decide +kernel
theorem lfk119 : (opCombine lgn38 3 3 0 2).1 = .inl 13 := by decide +kernel
theorem lfk120 : eqG (opCombine lgn38 3 3 0 2).2 lgn39 = true := by decide +kernel
theorem lfk121 : (opCombine lgn39 3 3 0 2).1 = .inl 17 := by decide +kernel
theorem lfk122 : eqG (opCombine lgn39 3 3 0 2).2 lgn40 = true := by decide +kernel
theorem lfk123 : (opCombine lgn40 3 3 0 2).1 = .inl 21 := by decide +kernel
theorem lfk124 : eqG (opCombine lgn40 3 3 0 2).2 lgn41 = true := by decide +kernel
theorem lfk125 : (opCombine lgn41 3 3 0 2).1 = .inl 25 := by decide +kernel
theorem lfk126 : eqG (opCombine lgn41 3 3 0 2).2 lgn42 = true := by decide +kernel
theorem lfk127 : (opCombine lgn42 3 3 0 2).1 = .inl 29 := by decide +kernel
theorem lfk128 : eqG (opCombine lgn42 3 3 0 2).2 lgn43 = true := by decide +kernel
theorem lfk129 : (opCombine lgn43 3 3 0 2).1 = .inl 33 := by decide +kernel
theorem lfk130 : eqG (opCombine lgn43 3 3 0 2).2 lgn44 = true := by decide +kernel
theorem lfk131 : (opCombine lgn44 3 3 0 2).1 = .inl 37 := by decide +kernel
theorem lfk132 : eqG (opCombine lgn44 3 3 0 2).2 lgn45 = true := by decide +kernel
theorem lfk133 : opFilter lgn45.1 3 1 = .inl 11 := by decide +kernel
theorem lfk134 : (opCombine lgn45 3 3 (dcC 500501500) (dcD 500501500)).1 = .inr 2 := by decide +kernel
theorem lfk135 : (opCombine lgn45 3 3 3 0).1 = .inl 38 := by decide +kernel
theorem lfk136 : eqG (opCombine lgn45 3 3 3 0).2 lgn46 = true := by decide +kernel
theorem lfk137 : (opCombine lgn46 3 5 (dcC 503500500) (dcD 503500500)).1 = .inr 2 := by decide +kernel
theorem lfk138 : opFilter lgn46.1 3 2 = .inl 19 := by decide +kernel
end LMF
