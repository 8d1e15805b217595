theorem dL_rows_461 : decode cL_rows 461 = .ok (.iconst 1, 1) := by decide +kernel
theorem dL_rows_462 : decode cL_rows 462 = .ok (.invokevirtual 72, 3) := by decide +kernel
theorem dL_rows_465 : decode cL_rows 465 = .ok (.iconst 3, 1) := by decide +kernel
theorem dL_rows_466 : decode cL_rows 466 = .ok (.if_icmp .ne 272, 3) := by decide +kernel
theorem dL_rows_469 : decode cL_rows 469 = .ok (.aload_n 0, 1) := by decide +kernel
theorem dL_rows_470 : decode cL_rows 470 = .ok (.iconst 2, 1) := by decide +kernel
theorem dL_rows_471 : decode cL_rows 471 = .ok (.ldc2_w 166, 3) := by decide +kernel
theorem dL_rows_474 : decode cL_rows 474 = .ok (.ldc2_w 168, 3) := by decide +kernel
theorem dL_rows_477 : decode cL_rows 477 = .ok (.invokestatic 162, 3) := by decide +kernel
theorem dL_rows_480 : decode cL_rows 480 = .ok (.ifCond .eq 258, 3) := by decide +kernel
theorem dL_rows_483 : decode cL_rows 483 = .ok (.aload_n 0, 1) := by decide +kernel
theorem dL_rows_484 : decode cL_rows 484 = .ok (.iconst 3, 1) := by decide +kernel
theorem dL_rows_485 : decode cL_rows 485 = .ok (.iconst 2, 1) := by decide +kernel
theorem dL_rows_486 : decode cL_rows 486 = .ok (.iconst 5, 1) := by decide +kernel
theorem dL_rows_487 : decode cL_rows 487 = .ok (.iconst 0, 1) := by decide +kernel
theorem dL_rows_488 : decode cL_rows 488 = .ok (.invokevirtual 31, 3) := by decide +kernel
theorem dL_rows_491 : decode cL_rows 491 = .ok (.bipush 6, 2) := by decide +kernel
theorem dL_rows_493 : decode cL_rows 493 = .ok (.if_icmp .ne 245, 3) := by decide +kernel
theorem dL_rows_496 : decode cL_rows 496 = .ok (.aload_n 0, 1) := by decide +kernel
theorem dL_rows_497 : decode cL_rows 497 = .ok (.iconst 3, 1) := by decide +kernel
theorem dL_rows_498 : decode cL_rows 498 = .ok (.ldc2_w 170, 3) := by decide +kernel
theorem dL_rows_501 : decode cL_rows 501 = .ok (.ldc2_w 172, 3) := by decide +kernel
theorem dL_rows_504 : decode cL_rows 504 = .ok (.invokestatic 162, 3) := by decide +kernel
theorem dL_rows_507 : decode cL_rows 507 = .ok (.ifCond .eq 231, 3) := by decide +kernel
theorem dL_rows_510 : decode cL_rows 510 = .ok (.aload_n 0, 1) := by decide +kernel
theorem dL_rows_511 : decode cL_rows 511 = .ok (.iconst 0, 1) := by decide +kernel
theorem dL_rows_512 : decode cL_rows 512 = .ok (.iconst 1, 1) := by decide +kernel
theorem dL_rows_513 : decode cL_rows 513 = .ok (.iconst 3, 1) := by decide +kernel
theorem dL_rows_514 : decode cL_rows 514 = .ok (.invokevirtual 66, 3) := by decide +kernel
theorem dL_rows_517 : decode cL_rows 517 = .ok (.iconst 2, 1) := by decide +kernel
theorem dL_rows_518 : decode cL_rows 518 = .ok (.if_icmp .ne 220, 3) := by decide +kernel
theorem dL_rows_521 : decode cL_rows 521 = .ok (.aload_n 0, 1) := by decide +kernel
theorem dL_rows_522 : decode cL_rows 522 = .ok (.iconst 1, 1) := by decide +kernel
theorem dL_rows_523 : decode cL_rows 523 = .ok (.iconst 1, 1) := by decide +kernel
theorem dL_rows_524 : decode cL_rows 524 = .ok (.iconst 3, 1) := by decide +kernel
theorem dL_rows_525 : decode cL_rows 525 = .ok (.invokevirtual 66, 3) := by decide +kernel
theorem dL_rows_528 : decode cL_rows 528 = .ok (.iconst 2, 1) := by decide +kernel
theorem dL_rows_529 : decode cL_rows 529 = .ok (.if_icmp .ne 209, 3) := by decide +kernel
theorem dL_rows_532 : decode cL_rows 532 = .ok (.aload_n 0, 1) := by decide +kernel
theorem dL_rows_533 : decode cL_rows 533 = .ok (.iconst 0, 1) := by decide +kernel
theorem dL_rows_534 : decode cL_rows 534 = .ok (.iconst 3, 1) := by decide +kernel
theorem dL_rows_535 : decode cL_rows 535 = .ok (.iconst 2, 1) := by decide +kernel
theorem dL_rows_536 : decode cL_rows 536 = .ok (.iconst 1, 1) := by decide +kernel
theorem dL_rows_537 : decode cL_rows 537 = .ok (.invokevirtual 69, 3) := by decide +kernel
theorem dL_rows_540 : decode cL_rows 540 = .ok (.iconst 2, 1) := by decide +kernel
theorem dL_rows_541 : decode cL_rows 541 = .ok (.if_icmp .ne 197, 3) := by decide +kernel
theorem dL_rows_544 : decode cL_rows 544 = .ok (.aload_n 0, 1) := by decide +kernel
theorem dL_rows_545 : decode cL_rows 545 = .ok (.iconst 0, 1) := by decide +kernel
theorem dL_rows_546 : decode cL_rows 546 = .ok (.iconst 3, 1) := by decide +kernel
theorem dL_rows_547 : decode cL_rows 547 = .ok (.invokevirtual 93, 3) := by decide +kernel
theorem dL_rows_550 : decode cL_rows 550 = .ok (.ldc2_w 174, 3) := by decide +kernel
theorem dL_rows_553 : decode cL_rows 553 = .ok (.dcmp .l, 1) := by decide +kernel
theorem dL_rows_554 : decode cL_rows 554 = .ok (.ifCond .ne 184, 3) := by decide +kernel
theorem dL_rows_557 : decode cL_rows 557 = .ok (.aload_n 0, 1) := by decide +kernel
theorem dL_rows_558 : decode cL_rows 558 = .ok (.iconst 0, 1) := by decide +kernel
theorem dL_rows_559 : decode cL_rows 559 = .ok (.iconst 0, 1) := by decide +kernel
theorem dL_rows_560 : decode cL_rows 560 = .ok (.iconst 1, 1) := by decide +kernel
theorem dL_rows_561 : decode cL_rows 561 = .ok (.iconst 0, 1) := by decide +kernel
theorem dL_rows_562 : decode cL_rows 562 = .ok (.invokevirtual 78, 3) := by decide +kernel
theorem dL_rows_565 : decode cL_rows 565 = .ok (.iconst 1, 1) := by decide +kernel
theorem dL_rows_566 : decode cL_rows 566 = .ok (.if_icmp .ne 172, 3) := by decide +kernel
theorem dL_rows_569 : decode cL_rows 569 = .ok (.aload_n 0, 1) := by decide +kernel
theorem dL_rows_570 : decode cL_rows 570 = .ok (.iconst 0, 1) := by decide +kernel
theorem dL_rows_571 : decode cL_rows 571 = .ok (.iconst 0, 1) := by decide +kernel
theorem dL_rows_572 : decode cL_rows 572 = .ok (.iconst 1, 1) := by decide +kernel
theorem dL_rows_573 : decode cL_rows 573 = .ok (.iconst 2, 1) := by decide +kernel
theorem dL_rows_574 : decode cL_rows 574 = .ok (.invokevirtual 78, 3) := by decide +kernel
theorem dL_rows_577 : decode cL_rows 577 = .ok (.iconst 1, 1) := by decide +kernel
theorem dL_rows_578 : decode cL_rows 578 = .ok (.if_icmp .ne 160, 3) := by decide +kernel
theorem dL_rows_581 : decode cL_rows 581 = .ok (.aload_n 0, 1) := by decide +kernel
theorem dL_rows_582 : decode cL_rows 582 = .ok (.iconst 0, 1) := by decide +kernel
theorem dL_rows_583 : decode cL_rows 583 = .ok (.iconst 1, 1) := by decide +kernel
theorem dL_rows_584 : decode cL_rows 584 = .ok (.iconst 0, 1) := by decide +kernel
theorem dL_rows_585 : decode cL_rows 585 = .ok (.iconst 1, 1) := by decide +kernel
theorem dL_rows_586 : decode cL_rows 586 = .ok (.invokevirtual 78, 3) := by decide +kernel
theorem dL_rows_589 : decode cL_rows 589 = .ok (.ifCond .ne 149, 3) := by decide +kernel
theorem dL_rows_592 : decode cL_rows 592 = .ok (.aload_n 0, 1) := by decide +kernel
theorem dL_rows_593 : decode cL_rows 593 = .ok (.iconst 0, 1) := by decide +kernel
theorem dL_rows_594 : decode cL_rows 594 = .ok (.iconst 1, 1) := by decide +kernel
theorem dL_rows_595 : decode cL_rows 595 = .ok (.iconst 1, 1) := by decide +kernel
theorem dL_rows_596 : decode cL_rows 596 = .ok (.invokevirtual 81, 3) := by decide +kernel
theorem dL_rows_599 : decode cL_rows 599 = .ok (.iconst 1, 1) := by decide +kernel
theorem dL_rows_600 : decode cL_rows 600 = .ok (.if_icmp .ne 138, 3) := by decide +kernel
theorem dL_rows_603 : decode cL_rows 603 = .ok (.aload_n 0, 1) := by decide +kernel
theorem dL_rows_604 : decode cL_rows 604 = .ok (.iconst 4, 1) := by decide +kernel
theorem dL_rows_605 : decode cL_rows 605 = .ok (.ldc2_w 176, 3) := by decide +kernel
theorem dL_rows_608 : decode cL_rows 608 = .ok (.lconst 0, 1) := by decide +kernel
theorem dL_rows_609 : decode cL_rows 609 = .ok (.iconst 3, 1) := by decide +kernel
theorem dL_rows_610 : decode cL_rows 610 = .ok (.invokestatic 156, 3) := by decide +kernel
theorem dL_rows_613 : decode cL_rows 613 = .ok (.ifCond .eq 125, 3) := by decide +kernel
theorem dL_rows_616 : decode cL_rows 616 = .ok (.aload_n 0, 1) := by decide +kernel
theorem dL_rows_617 : decode cL_rows 617 = .ok (.iconst 0, 1) := by decide +kernel
theorem dL_rows_618 : decode cL_rows 618 = .ok (.iconst 1, 1) := by decide +kernel
theorem dL_rows_619 : decode cL_rows 619 = .ok (.iconst 4, 1) := by decide +kernel
theorem dL_rows_620 : decode cL_rows 620 = .ok (.invokevirtual 66, 3) := by decide +kernel
theorem dL_rows_623 : decode cL_rows 623 = .ok (.iconst 1, 1) := by decide +kernel
theorem dL_rows_624 : decode cL_rows 624 = .ok (.if_icmp .ne 114, 3) := by decide +kernel
theorem dL_rows_627 : decode cL_rows 627 = .ok (.aload_n 0, 1) := by decide +kernel
theorem dL_rows_628 : decode cL_rows 628 = .ok (.iconst 0, 1) := by decide +kernel
theorem dL_rows_629 : decode cL_rows 629 = .ok (.iconst 1, 1) := by decide +kernel
theorem dL_rows_630 : decode cL_rows 630 = .ok (.iconst 4, 1) := by decide +kernel
theorem dL_rows_631 : decode cL_rows 631 = .ok (.invokevirtual 81, 3) := by decide +kernel
theorem dL_rows_634 : decode cL_rows 634 = .ok (.iconst 2, 1) := by decide +kernel
theorem dL_rows_635 : decode cL_rows 635 = .ok (.if_icmp .ne 103, 3) := by decide +kernel
theorem dL_rows_638 : decode cL_rows 638 = .ok (.aload_n 0, 1) := by decide +kernel
theorem dL_rows_639 : decode cL_rows 639 = .ok (.iconst 0, 1) := by decide +kernel
theorem dL_rows_640 : decode cL_rows 640 = .ok (.iconst 0, 1) := by decide +kernel
theorem dL_rows_641 : decode cL_rows 641 = .ok (.iconst 4, 1) := by decide +kernel
theorem dL_rows_642 : decode cL_rows 642 = .ok (.invokevirtual 81, 3) := by decide +kernel
theorem dL_rows_645 : decode cL_rows 645 = .ok (.iconst 2, 1) := by decide +kernel
theorem dL_rows_646 : decode cL_rows 646 = .ok (.if_icmp .ne 92, 3) := by decide +kernel
theorem dL_rows_649 : decode cL_rows 649 = .ok (.aload_n 0, 1) := by decide +kernel
theorem dL_rows_650 : decode cL_rows 650 = .ok (.iconst 4, 1) := by decide +kernel
theorem dL_rows_651 : decode cL_rows 651 = .ok (.ldc2_w 178, 3) := by decide +kernel
theorem dL_rows_654 : decode cL_rows 654 = .ok (.lconst 0, 1) := by decide +kernel
theorem dL_rows_655 : decode cL_rows 655 = .ok (.iconst 3, 1) := by decide +kernel
theorem dL_rows_656 : decode cL_rows 656 = .ok (.invokestatic 156, 3) := by decide +kernel
theorem dL_rows_659 : decode cL_rows 659 = .ok (.ifCond .eq 79, 3) := by decide +kernel
theorem dL_rows_662 : decode cL_rows 662 = .ok (.aload_n 0, 1) := by decide +kernel
theorem dL_rows_663 : decode cL_rows 663 = .ok (.iconst 0, 1) := by decide +kernel
theorem dL_rows_664 : decode cL_rows 664 = .ok (.iconst 1, 1) := by decide +kernel
theorem dL_rows_665 : decode cL_rows 665 = .ok (.iconst 4, 1) := by decide +kernel
theorem dL_rows_666 : decode cL_rows 666 = .ok (.invokevirtual 81, 3) := by decide +kernel
theorem dL_rows_669 : decode cL_rows 669 = .ok (.iconst 1, 1) := by decide +kernel
theorem dL_rows_670 : decode cL_rows 670 = .ok (.if_icmp .ne 68, 3) := by decide +kernel
theorem dL_rows_673 : decode cL_rows 673 = .ok (.aload_n 0, 1) := by decide +kernel
theorem dL_rows_674 : decode cL_rows 674 = .ok (.iconst 4, 1) := by decide +kernel
theorem dL_rows_675 : decode cL_rows 675 = .ok (.ldc2_w 180, 3) := by decide +kernel
theorem dL_rows_678 : decode cL_rows 678 = .ok (.lconst 0, 1) := by decide +kernel
theorem dL_rows_679 : decode cL_rows 679 = .ok (.iconst 3, 1) := by decide +kernel
theorem dL_rows_680 : decode cL_rows 680 = .ok (.invokestatic 156, 3) := by decide +kernel
theorem dL_rows_683 : decode cL_rows 683 = .ok (.ifCond .eq 55, 3) := by decide +kernel
theorem dL_rows_686 : decode cL_rows 686 = .ok (.aload_n 0, 1) := by decide +kernel
theorem dL_rows_687 : decode cL_rows 687 = .ok (.iconst 0, 1) := by decide +kernel
theorem dL_rows_688 : decode cL_rows 688 = .ok (.iconst 1, 1) := by decide +kernel
theorem dL_rows_689 : decode cL_rows 689 = .ok (.iconst 4, 1) := by decide +kernel
theorem dL_rows_690 : decode cL_rows 690 = .ok (.invokevirtual 66, 3) := by decide +kernel
theorem dL_rows_693 : decode cL_rows 693 = .ok (.iconst 1, 1) := by decide +kernel
theorem dL_rows_694 : decode cL_rows 694 = .ok (.if_icmp .ne 44, 3) := by decide +kernel
theorem dL_rows_697 : decode cL_rows 697 = .ok (.aload_n 0, 1) := by decide +kernel
theorem dL_rows_698 : decode cL_rows 698 = .ok (.iconst 0, 1) := by decide +kernel
theorem dL_rows_699 : decode cL_rows 699 = .ok (.iconst 1, 1) := by decide +kernel
theorem dL_rows_700 : decode cL_rows 700 = .ok (.iconst 4, 1) := by decide +kernel
theorem dL_rows_701 : decode cL_rows 701 = .ok (.invokevirtual 81, 3) := by decide +kernel
theorem dL_rows_704 : decode cL_rows 704 = .ok (.ifCond .ne 34, 3) := by decide +kernel
theorem dL_rows_707 : decode cL_rows 707 = .ok (.aload_n 0, 1) := by decide +kernel
theorem dL_rows_708 : decode cL_rows 708 = .ok (.iconst 4, 1) := by decide +kernel
theorem dL_rows_709 : decode cL_rows 709 = .ok (.ldc2_w 182, 3) := by decide +kernel
theorem dL_rows_712 : decode cL_rows 712 = .ok (.lconst 0, 1) := by decide +kernel
theorem dL_rows_713 : decode cL_rows 713 = .ok (.iconst 3, 1) := by decide +kernel
theorem dL_rows_714 : decode cL_rows 714 = .ok (.invokestatic 156, 3) := by decide +kernel
theorem dL_rows_717 : decode cL_rows 717 = .ok (.ifCond .eq 21, 3) := by decide +kernel
theorem dL_rows_720 : decode cL_rows 720 = .ok (.aload_n 0, 1) := by decide +kernel
theorem dL_rows_721 : decode cL_rows 721 = .ok (.iconst 0, 1) := by decide +kernel
theorem dL_rows_722 : decode cL_rows 722 = .ok (.iconst 1, 1) := by decide +kernel
theorem dL_rows_723 : decode cL_rows 723 = .ok (.iconst 4, 1) := by decide +kernel
theorem dL_rows_724 : decode cL_rows 724 = .ok (.invokevirtual 81, 3) := by decide +kernel
theorem dL_rows_727 : decode cL_rows 727 = .ok (.iconst 2, 1) := by decide +kernel
theorem dL_rows_728 : decode cL_rows 728 = .ok (.if_icmp .ne 10, 3) := by decide +kernel
theorem dL_rows_731 : decode cL_rows 731 = .ok (.aload_n 0, 1) := by decide +kernel
theorem dL_rows_732 : decode cL_rows 732 = .ok (.invokestatic 150, 3) := by decide +kernel
theorem dL_rows_735 : decode cL_rows 735 = .ok (.ifCond .ne 5, 3) := by decide +kernel
theorem dL_rows_738 : decode cL_rows 738 = .ok (.iconst 0, 1) := by decide +kernel
theorem dL_rows_739 : decode cL_rows 739 = .ok (.ireturn, 1) := by decide +kernel
theorem dL_rows_740 : decode cL_rows 740 = .ok (.aload_n 0, 1) := by decide +kernel
theorem dL_rows_741 : decode cL_rows 741 = .ok (.iconst 0, 1) := by decide +kernel
theorem dL_rows_742 : decode cL_rows 742 = .ok (.iconst 0, 1) := by decide +kernel
theorem dL_rows_743 : decode cL_rows 743 = .ok (.invokevirtual 34, 3) := by decide +kernel
theorem dL_rows_746 : decode cL_rows 746 = .ok (.iconst 1, 1) := by decide +kernel
theorem dL_rows_747 : decode cL_rows 747 = .ok (.if_icmp .ne 307, 3) := by decide +kernel
theorem dL_rows_750 : decode cL_rows 750 = .ok (.aload_n 0, 1) := by decide +kernel
theorem dL_rows_751 : decode cL_rows 751 = .ok (.iconst 5, 1) := by decide +kernel
theorem dL_rows_752 : decode cL_rows 752 = .ok (.invokevirtual 90, 3) := by decide +kernel
theorem dL_rows_755 : decode cL_rows 755 = .ok (.iconst 1, 1) := by decide +kernel
theorem dL_rows_756 : decode cL_rows 756 = .ok (.if_icmp .ne 298, 3) := by decide +kernel
theorem dL_rows_759 : decode cL_rows 759 = .ok (.aload_n 0, 1) := by decide +kernel
theorem dL_rows_760 : decode cL_rows 760 = .ok (.iconst 3, 1) := by decide +kernel
theorem dL_rows_761 : decode cL_rows 761 = .ok (.invokevirtual 90, 3) := by decide +kernel
theorem dL_rows_764 : decode cL_rows 764 = .ok (.ifCond .ne 290, 3) := by decide +kernel
theorem dL_rows_767 : decode cL_rows 767 = .ok (.aload_n 0, 1) := by decide +kernel
theorem dL_rows_768 : decode cL_rows 768 = .ok (.iconst 5, 1) := by decide +kernel
theorem dL_rows_769 : decode cL_rows 769 = .ok (.ldc2_w 184, 3) := by decide +kernel
theorem dL_rows_772 : decode cL_rows 772 = .ok (.lconst 0, 1) := by decide +kernel
theorem dL_rows_773 : decode cL_rows 773 = .ok (.iconst 4, 1) := by decide +kernel
theorem dL_rows_774 : decode cL_rows 774 = .ok (.invokestatic 156, 3) := by decide +kernel
theorem dL_rows_777 : decode cL_rows 777 = .ok (.ifCond .eq 277, 3) := by decide +kernel
theorem dL_rows_780 : decode cL_rows 780 = .ok (.aload_n 0, 1) := by decide +kernel
theorem dL_rows_781 : decode cL_rows 781 = .ok (.iconst 5, 1) := by decide +kernel
theorem dL_rows_782 : decode cL_rows 782 = .ok (.ldc2_w 184, 3) := by decide +kernel
theorem dL_rows_785 : decode cL_rows 785 = .ok (.lconst 0, 1) := by decide +kernel
theorem dL_rows_786 : decode cL_rows 786 = .ok (.invokestatic 162, 3) := by decide +kernel
theorem dL_rows_789 : decode cL_rows 789 = .ok (.ifCond .eq 265, 3) := by decide +kernel
theorem dL_rows_792 : decode cL_rows 792 = .ok (.aload_n 0, 1) := by decide +kernel
theorem dL_rows_793 : decode cL_rows 793 = .ok (.iconst 5, 1) := by decide +kernel
theorem dL_rows_794 : decode cL_rows 794 = .ok (.iconst 1, 1) := by decide +kernel
theorem dL_rows_795 : decode cL_rows 795 = .ok (.invokevirtual 72, 3) := by decide +kernel
theorem dL_rows_798 : decode cL_rows 798 = .ok (.iconst 3, 1) := by decide +kernel
theorem dL_rows_799 : decode cL_rows 799 = .ok (.if_icmp .ne 255, 3) := by decide +kernel
theorem dL_rows_802 : decode cL_rows 802 = .ok (.aload_n 0, 1) := by decide +kernel
theorem dL_rows_803 : decode cL_rows 803 = .ok (.iconst 0, 1) := by decide +kernel
theorem dL_rows_804 : decode cL_rows 804 = .ok (.iconst 5, 1) := by decide +kernel
theorem dL_rows_805 : decode cL_rows 805 = .ok (.invokevirtual 34, 3) := by decide +kernel
theorem dL_rows_808 : decode cL_rows 808 = .ok (.ifCond .ne 246, 3) := by decide +kernel
theorem dL_rows_811 : decode cL_rows 811 = .ok (.aload_n 0, 1) := by decide +kernel
theorem dL_rows_812 : decode cL_rows 812 = .ok (.iconst 3, 1) := by decide +kernel
theorem dL_rows_813 : decode cL_rows 813 = .ok (.invokevirtual 90, 3) := by decide +kernel
theorem dL_rows_816 : decode cL_rows 816 = .ok (.iconst 1, 1) := by decide +kernel
theorem dL_rows_817 : decode cL_rows 817 = .ok (.if_icmp .ne 237, 3) := by decide +kernel
theorem dL_rows_820 : decode cL_rows 820 = .ok (.aload_n 0, 1) := by decide +kernel
theorem dL_rows_821 : decode cL_rows 821 = .ok (.iconst 0, 1) := by decide +kernel
theorem dL_rows_822 : decode cL_rows 822 = .ok (.bipush 9, 2) := by decide +kernel
theorem dL_rows_824 : decode cL_rows 824 = .ok (.iconst 0, 1) := by decide +kernel
theorem dL_rows_825 : decode cL_rows 825 = .ok (.iconst 0, 1) := by decide +kernel
theorem dL_rows_826 : decode cL_rows 826 = .ok (.iconst 0, 1) := by decide +kernel
theorem dL_rows_827 : decode cL_rows 827 = .ok (.invokevirtual 13, 3) := by decide +kernel
theorem dL_rows_830 : decode cL_rows 830 = .ok (.bipush (-2), 2) := by decide +kernel
theorem dL_rows_832 : decode cL_rows 832 = .ok (.if_icmp .ne 222, 3) := by decide +kernel
theorem dL_rows_835 : decode cL_rows 835 = .ok (.aload_n 0, 1) := by decide +kernel
theorem dL_rows_836 : decode cL_rows 836 = .ok (.iconst 5, 1) := by decide +kernel
theorem dL_rows_837 : decode cL_rows 837 = .ok (.invokevirtual 90, 3) := by decide +kernel
theorem dL_rows_840 : decode cL_rows 840 = .ok (.iconst 2, 1) := by decide +kernel
theorem dL_rows_841 : decode cL_rows 841 = .ok (.if_icmp .ne 213, 3) := by decide +kernel
theorem dL_rows_844 : decode cL_rows 844 = .ok (.aload_n 0, 1) := by decide +kernel
theorem dL_rows_845 : decode cL_rows 845 = .ok (.iconst 0, 1) := by decide +kernel
theorem dL_rows_846 : decode cL_rows 846 = .ok (.invokevirtual 90, 3) := by decide +kernel
theorem dL_rows_849 : decode cL_rows 849 = .ok (.iconst 2, 1) := by decide +kernel
theorem dL_rows_850 : decode cL_rows 850 = .ok (.if_icmp .ne 204, 3) := by decide +kernel
theorem dL_rows_853 : decode cL_rows 853 = .ok (.aload_n 0, 1) := by decide +kernel
theorem dL_rows_854 : decode cL_rows 854 = .ok (.iconst 0, 1) := by decide +kernel
theorem dL_rows_855 : decode cL_rows 855 = .ok (.iconst (-1), 1) := by decide +kernel
theorem dL_rows_856 : decode cL_rows 856 = .ok (.iconst 0, 1) := by decide +kernel
theorem dL_rows_857 : decode cL_rows 857 = .ok (.iconst 0, 1) := by decide +kernel
theorem dL_rows_858 : decode cL_rows 858 = .ok (.iconst 0, 1) := by decide +kernel
theorem dL_rows_859 : decode cL_rows 859 = .ok (.invokevirtual 13, 3) := by decide +kernel
theorem dL_rows_862 : decode cL_rows 862 = .ok (.iconst 2, 1) := by decide +kernel
theorem dL_rows_863 : decode cL_rows 863 = .ok (.if_icmp .ne 191, 3) := by decide +kernel
theorem dL_rows_866 : decode cL_rows 866 = .ok (.aload_n 0, 1) := by decide +kernel
theorem dL_rows_867 : decode cL_rows 867 = .ok (.iconst 3, 1) := by decide +kernel
theorem dL_rows_868 : decode cL_rows 868 = .ok (.invokevirtual 90, 3) := by decide +kernel
theorem dL_rows_871 : decode cL_rows 871 = .ok (.iconst 2, 1) := by decide +kernel
theorem dL_rows_872 : decode cL_rows 872 = .ok (.if_icmp .ne 182, 3) := by decide +kernel
theorem dL_rows_875 : decode cL_rows 875 = .ok (.aload_n 0, 1) := by decide +kernel
theorem dL_rows_876 : decode cL_rows 876 = .ok (.iconst 0, 1) := by decide +kernel
theorem dL_rows_877 : decode cL_rows 877 = .ok (.iconst 0, 1) := by decide +kernel
theorem dL_rows_878 : decode cL_rows 878 = .ok (.iconst 0, 1) := by decide +kernel
theorem dL_rows_879 : decode cL_rows 879 = .ok (.bipush 50, 2) := by decide +kernel
theorem dL_rows_881 : decode cL_rows 881 = .ok (.invokevirtual 19, 3) := by decide +kernel
theorem dL_rows_884 : decode cL_rows 884 = .ok (.bipush (-2), 2) := by decide +kernel
theorem dL_rows_886 : decode cL_rows 886 = .ok (.if_icmp .ne 168, 3) := by decide +kernel
theorem dL_rows_889 : decode cL_rows 889 = .ok (.aload_n 0, 1) := by decide +kernel
theorem dL_rows_890 : decode cL_rows 890 = .ok (.iconst 0, 1) := by decide +kernel
theorem dL_rows_891 : decode cL_rows 891 = .ok (.iconst 0, 1) := by decide +kernel
theorem dL_rows_892 : decode cL_rows 892 = .ok (.iconst 0, 1) := by decide +kernel
theorem dL_rows_893 : decode cL_rows 893 = .ok (.invokevirtual 56, 3) := by decide +kernel
theorem dL_rows_896 : decode cL_rows 896 = .ok (.iconst 5, 1) := by decide +kernel
theorem dL_rows_897 : decode cL_rows 897 = .ok (.if_icmp .ne 157, 3) := by decide +kernel
theorem dL_rows_900 : decode cL_rows 900 = .ok (.aload_n 0, 1) := by decide +kernel
theorem dL_rows_901 : decode cL_rows 901 = .ok (.iconst 0, 1) := by decide +kernel
theorem dL_rows_902 : decode cL_rows 902 = .ok (.iconst 0, 1) := by decide +kernel
theorem dL_rows_903 : decode cL_rows 903 = .ok (.iconst 1, 1) := by decide +kernel
theorem dL_rows_904 : decode cL_rows 904 = .ok (.bipush 7, 2) := by decide +kernel
theorem dL_rows_906 : decode cL_rows 906 = .ok (.invokevirtual 19, 3) := by decide +kernel
theorem dL_rows_909 : decode cL_rows 909 = .ok (.bipush (-2), 2) := by decide +kernel
theorem dL_rows_911 : decode cL_rows 911 = .ok (.if_icmp .ne 143, 3) := by decide +kernel
theorem dL_rows_914 : decode cL_rows 914 = .ok (.aload_n 0, 1) := by decide +kernel
theorem dL_rows_915 : decode cL_rows 915 = .ok (.iconst 0, 1) := by decide +kernel
theorem dL_rows_916 : decode cL_rows 916 = .ok (.iconst 0, 1) := by decide +kernel
theorem dL_rows_917 : decode cL_rows 917 = .ok (.iconst 1, 1) := by decide +kernel
theorem dL_rows_918 : decode cL_rows 918 = .ok (.bipush 8, 2) := by decide +kernel
theorem dL_rows_920 : decode cL_rows 920 = .ok (.invokevirtual 19, 3) := by decide +kernel
theorem dL_rows_923 : decode cL_rows 923 = .ok (.iconst (-1), 1) := by decide +kernel
theorem dL_rows_924 : decode cL_rows 924 = .ok (.if_icmp .ne 130, 3) := by decide +kernel
theorem dL_rows_927 : decode cL_rows 927 = .ok (.aload_n 0, 1) := by decide +kernel
theorem dL_rows_928 : decode cL_rows 928 = .ok (.iconst 3, 1) := by decide +kernel
theorem dL_rows_929 : decode cL_rows 929 = .ok (.invokevirtual 90, 3) := by decide +kernel
theorem dL_rows_932 : decode cL_rows 932 = .ok (.iconst 1, 1) := by decide +kernel
theorem dL_rows_933 : decode cL_rows 933 = .ok (.if_icmp .ne 121, 3) := by decide +kernel
theorem dL_rows_936 : decode cL_rows 936 = .ok (.aload_n 0, 1) := by decide +kernel
theorem dL_rows_937 : decode cL_rows 937 = .ok (.iconst 0, 1) := by decide +kernel
theorem dL_rows_938 : decode cL_rows 938 = .ok (.iconst 0, 1) := by decide +kernel
theorem dL_rows_939 : decode cL_rows 939 = .ok (.iconst 1, 1) := by decide +kernel
theorem dL_rows_940 : decode cL_rows 940 = .ok (.iconst (-1), 1) := by decide +kernel
theorem dL_rows_941 : decode cL_rows 941 = .ok (.invokevirtual 19, 3) := by decide +kernel
theorem dL_rows_944 : decode cL_rows 944 = .ok (.bipush 8, 2) := by decide +kernel
theorem dL_rows_946 : decode cL_rows 946 = .ok (.if_icmp .ne 108, 3) := by decide +kernel
theorem dL_rows_949 : decode cL_rows 949 = .ok (.aload_n 0, 1) := by decide +kernel
theorem dL_rows_950 : decode cL_rows 950 = .ok (.iconst 0, 1) := by decide +kernel
theorem dL_rows_951 : decode cL_rows 951 = .ok (.iconst 1, 1) := by decide +kernel
theorem dL_rows_952 : decode cL_rows 952 = .ok (.iconst 0, 1) := by decide +kernel
theorem dL_rows_953 : decode cL_rows 953 = .ok (.bipush 70, 2) := by decide +kernel
theorem dL_rows_955 : decode cL_rows 955 = .ok (.invokevirtual 40, 3) := by decide +kernel
theorem dL_rows_958 : decode cL_rows 958 = .ok (.bipush (-2), 2) := by decide +kernel
theorem dL_rows_960 : decode cL_rows 960 = .ok (.if_icmp .ne 94, 3) := by decide +kernel
theorem dL_rows_963 : decode cL_rows 963 = .ok (.aload_n 0, 1) := by decide +kernel
theorem dL_rows_964 : decode cL_rows 964 = .ok (.iconst 0, 1) := by decide +kernel
theorem dL_rows_965 : decode cL_rows 965 = .ok (.iconst 0, 1) := by decide +kernel
theorem dL_rows_966 : decode cL_rows 966 = .ok (.iconst 0, 1) := by decide +kernel
theorem dL_rows_967 : decode cL_rows 967 = .ok (.invokevirtual 56, 3) := by decide +kernel
theorem dL_rows_970 : decode cL_rows 970 = .ok (.iconst 5, 1) := by decide +kernel
theorem dL_rows_971 : decode cL_rows 971 = .ok (.if_icmp .ne 83, 3) := by decide +kernel
theorem dL_rows_974 : decode cL_rows 974 = .ok (.aload_n 0, 1) := by decide +kernel
theorem dL_rows_975 : decode cL_rows 975 = .ok (.iconst 5, 1) := by decide +kernel
theorem dL_rows_976 : decode cL_rows 976 = .ok (.invokevirtual 90, 3) := by decide +kernel
theorem dL_rows_979 : decode cL_rows 979 = .ok (.iconst 5, 1) := by decide +kernel
theorem dL_rows_980 : decode cL_rows 980 = .ok (.if_icmp .ne 74, 3) := by decide +kernel
theorem dL_rows_983 : decode cL_rows 983 = .ok (.aload_n 0, 1) := by decide +kernel
theorem dL_rows_984 : decode cL_rows 984 = .ok (.iconst 0, 1) := by decide +kernel
theorem dL_rows_985 : decode cL_rows 985 = .ok (.iconst 1, 1) := by decide +kernel
theorem dL_rows_986 : decode cL_rows 986 = .ok (.iconst 0, 1) := by decide +kernel
theorem dL_rows_987 : decode cL_rows 987 = .ok (.bipush 8, 2) := by decide +kernel
theorem dL_rows_989 : decode cL_rows 989 = .ok (.invokevirtual 40, 3) := by decide +kernel
theorem dL_rows_992 : decode cL_rows 992 = .ok (.iconst 1, 1) := by decide +kernel
theorem dL_rows_993 : decode cL_rows 993 = .ok (.if_icmp .ne 61, 3) := by decide +kernel
theorem dL_rows_996 : decode cL_rows 996 = .ok (.aload_n 0, 1) := by decide +kernel
theorem dL_rows_997 : decode cL_rows 997 = .ok (.iconst 0, 1) := by decide +kernel
theorem dL_rows_998 : decode cL_rows 998 = .ok (.iconst 0, 1) := by decide +kernel
theorem dL_rows_999 : decode cL_rows 999 = .ok (.iconst 0, 1) := by decide +kernel
theorem dL_rows_1000 : decode cL_rows 1000 = .ok (.invokevirtual 56, 3) := by decide +kernel
theorem dL_rows_1003 : decode cL_rows 1003 = .ok (.bipush 8, 2) := by decide +kernel
theorem dL_rows_1005 : decode cL_rows 1005 = .ok (.if_icmp .ne 49, 3) := by decide +kernel
theorem dL_rows_1008 : decode cL_rows 1008 = .ok (.aload_n 0, 1) := by decide +kernel
theorem dL_rows_1009 : decode cL_rows 1009 = .ok (.invokevirtual 46, 3) := by decide +kernel
theorem dL_rows_1012 : decode cL_rows 1012 = .ok (.iconst 5, 1) := by decide +kernel
theorem dL_rows_1013 : decode cL_rows 1013 = .ok (.if_icmp .ne 41, 3) := by decide +kernel
theorem dL_rows_1016 : decode cL_rows 1016 = .ok (.aload_n 0, 1) := by decide +kernel
theorem dL_rows_1017 : decode cL_rows 1017 = .ok (.iconst 5, 1) := by decide +kernel
theorem dL_rows_1018 : decode cL_rows 1018 = .ok (.ldc2_w 154, 3) := by decide +kernel
theorem dL_rows_1021 : decode cL_rows 1021 = .ok (.lconst 0, 1) := by decide +kernel
theorem dL_rows_1022 : decode cL_rows 1022 = .ok (.iconst 1, 1) := by decide +kernel
theorem dL_rows_1023 : decode cL_rows 1023 = .ok (.invokestatic 156, 3) := by decide +kernel
theorem dL_rows_1026 : decode cL_rows 1026 = .ok (.ifCond .eq 28, 3) := by decide +kernel
theorem dL_rows_1029 : decode cL_rows 1029 = .ok (.aload_n 0, 1) := by decide +kernel
theorem dL_rows_1030 : decode cL_rows 1030 = .ok (.iconst 0, 1) := by decide +kernel
theorem dL_rows_1031 : decode cL_rows 1031 = .ok (.bipush 10, 2) := by decide +kernel
theorem dL_rows_1033 : decode cL_rows 1033 = .ok (.iconst 0, 1) := by decide +kernel
theorem dL_rows_1034 : decode cL_rows 1034 = .ok (.iconst 0, 1) := by decide +kernel
theorem dL_rows_1035 : decode cL_rows 1035 = .ok (.iconst 0, 1) := by decide +kernel
theorem dL_rows_1036 : decode cL_rows 1036 = .ok (.invokevirtual 13, 3) := by decide +kernel
theorem dL_rows_1039 : decode cL_rows 1039 = .ok (.bipush (-2), 2) := by decide +kernel
theorem dL_rows_1041 : decode cL_rows 1041 = .ok (.if_icmp .ne 13, 3) := by decide +kernel
theorem dL_rows_1044 : decode cL_rows 1044 = .ok (.aload_n 0, 1) := by decide +kernel
theorem dL_rows_1045 : decode cL_rows 1045 = .ok (.iconst 5, 1) := by decide +kernel
theorem dL_rows_1046 : decode cL_rows 1046 = .ok (.invokevirtual 90, 3) := by decide +kernel
theorem dL_rows_1049 : decode cL_rows 1049 = .ok (.bipush 6, 2) := by decide +kernel
theorem dL_rows_1051 : decode cL_rows 1051 = .ok (.if_icmp .eq 5, 3) := by decide +kernel
theorem dL_rows_1054 : decode cL_rows 1054 = .ok (.iconst 0, 1) := by decide +kernel
theorem dL_rows_1055 : decode cL_rows 1055 = .ok (.ireturn, 1) := by decide +kernel
theorem dL_rows_1056 : decode cL_rows 1056 = .ok (.aload_n 0, 1) := by decide +kernel
theorem dL_rows_1057 : decode cL_rows 1057 = .ok (.iconst 0, 1) := by decide +kernel
theorem dL_rows_1058 : decode cL_rows 1058 = .ok (.iconst 0, 1) := by decide +kernel
theorem dL_rows_1059 : decode cL_rows 1059 = .ok (.iconst 0, 1) := by decide +kernel
theorem dL_rows_1060 : decode cL_rows 1060 = .ok (.invokevirtual 84, 3) := by decide +kernel
theorem dL_rows_1063 : decode cL_rows 1063 = .ok (.iconst 1, 1) := by decide +kernel
theorem dL_rows_1064 : decode cL_rows 1064 = .ok (.if_icmp .ne 277, 3) := by decide +kernel
theorem dL_rows_1067 : decode cL_rows 1067 = .ok (.aload_n 0, 1) := by decide +kernel
theorem dL_rows_1068 : decode cL_rows 1068 = .ok (.iconst 0, 1) := by decide +kernel
theorem dL_rows_1069 : decode cL_rows 1069 = .ok (.iconst 0, 1) := by decide +kernel
theorem dL_rows_1070 : decode cL_rows 1070 = .ok (.iconst 1, 1) := by decide +kernel
theorem dL_rows_1071 : decode cL_rows 1071 = .ok (.invokevirtual 84, 3) := by decide +kernel
theorem dL_rows_1074 : decode cL_rows 1074 = .ok (.bipush 6, 2) := by decide +kernel
theorem dL_rows_1076 : decode cL_rows 1076 = .ok (.if_icmp .ne 265, 3) := by decide +kernel
theorem dL_rows_1079 : decode cL_rows 1079 = .ok (.aload_n 0, 1) := by decide +kernel
theorem dL_rows_1080 : decode cL_rows 1080 = .ok (.iconst 0, 1) := by decide +kernel
theorem dL_rows_1081 : decode cL_rows 1081 = .ok (.iconst 0, 1) := by decide +kernel
theorem dL_rows_1082 : decode cL_rows 1082 = .ok (.iconst 2, 1) := by decide +kernel
theorem dL_rows_1083 : decode cL_rows 1083 = .ok (.invokevirtual 84, 3) := by decide +kernel
theorem dL_rows_1086 : decode cL_rows 1086 = .ok (.iconst 2, 1) := by decide +kernel
theorem dL_rows_1087 : decode cL_rows 1087 = .ok (.if_icmp .ne 254, 3) := by decide +kernel
theorem dL_rows_1090 : decode cL_rows 1090 = .ok (.aload_n 0, 1) := by decide +kernel
theorem dL_rows_1091 : decode cL_rows 1091 = .ok (.iconst 0, 1) := by decide +kernel
theorem dL_rows_1092 : decode cL_rows 1092 = .ok (.iconst 0, 1) := by decide +kernel
theorem dL_rows_1093 : decode cL_rows 1093 = .ok (.iconst 3, 1) := by decide +kernel
theorem dL_rows_1094 : decode cL_rows 1094 = .ok (.invokevirtual 84, 3) := by decide +kernel
theorem dL_rows_1097 : decode cL_rows 1097 = .ok (.ifCond .ne 244, 3) := by decide +kernel
theorem dL_rows_1100 : decode cL_rows 1100 = .ok (.aload_n 0, 1) := by decide +kernel
theorem dL_rows_1101 : decode cL_rows 1101 = .ok (.iconst 0, 1) := by decide +kernel
theorem dL_rows_1102 : decode cL_rows 1102 = .ok (.iconst 0, 1) := by decide +kernel
theorem dL_rows_1103 : decode cL_rows 1103 = .ok (.iconst 4, 1) := by decide +kernel
theorem dL_rows_1104 : decode cL_rows 1104 = .ok (.invokevirtual 84, 3) := by decide +kernel
theorem dL_rows_1107 : decode cL_rows 1107 = .ok (.bipush (-2), 2) := by decide +kernel
theorem dL_rows_1109 : decode cL_rows 1109 = .ok (.if_icmp .ne 232, 3) := by decide +kernel
theorem dL_rows_1112 : decode cL_rows 1112 = .ok (.aload_n 0, 1) := by decide +kernel
theorem dL_rows_1113 : decode cL_rows 1113 = .ok (.iconst 1, 1) := by decide +kernel
theorem dL_rows_1114 : decode cL_rows 1114 = .ok (.iconst 2, 1) := by decide +kernel
theorem dL_rows_1115 : decode cL_rows 1115 = .ok (.iconst 0, 1) := by decide +kernel
theorem dL_rows_1116 : decode cL_rows 1116 = .ok (.invokevirtual 84, 3) := by decide +kernel
theorem dL_rows_1119 : decode cL_rows 1119 = .ok (.iconst 1, 1) := by decide +kernel
theorem dL_rows_1120 : decode cL_rows 1120 = .ok (.if_icmp .ne 221, 3) := by decide +kernel
theorem dL_rows_1123 : decode cL_rows 1123 = .ok (.aload_n 0, 1) := by decide +kernel
theorem dL_rows_1124 : decode cL_rows 1124 = .ok (.iconst 1, 1) := by decide +kernel
theorem dL_rows_1125 : decode cL_rows 1125 = .ok (.iconst 2, 1) := by decide +kernel
theorem dL_rows_1126 : decode cL_rows 1126 = .ok (.iconst 3, 1) := by decide +kernel
theorem dL_rows_1127 : decode cL_rows 1127 = .ok (.invokevirtual 84, 3) := by decide +kernel
theorem dL_rows_1130 : decode cL_rows 1130 = .ok (.bipush 101, 2) := by decide +kernel
theorem dL_rows_1132 : decode cL_rows 1132 = .ok (.if_icmp .ne 209, 3) := by decide +kernel
theorem dL_rows_1135 : decode cL_rows 1135 = .ok (.aload_n 0, 1) := by decide +kernel
theorem dL_rows_1136 : decode cL_rows 1136 = .ok (.iconst 0, 1) := by decide +kernel
theorem dL_rows_1137 : decode cL_rows 1137 = .ok (.iconst 0, 1) := by decide +kernel
theorem dL_rows_1138 : decode cL_rows 1138 = .ok (.iconst 0, 1) := by decide +kernel
theorem dL_rows_1139 : decode cL_rows 1139 = .ok (.invokevirtual 87, 3) := by decide +kernel
theorem dL_rows_1142 : decode cL_rows 1142 = .ok (.iconst 2, 1) := by decide +kernel
theorem dL_rows_1143 : decode cL_rows 1143 = .ok (.if_icmp .ne 198, 3) := by decide +kernel
theorem dL_rows_1146 : decode cL_rows 1146 = .ok (.aload_n 0, 1) := by decide +kernel
theorem dL_rows_1147 : decode cL_rows 1147 = .ok (.iconst 1, 1) := by decide +kernel
theorem dL_rows_1148 : decode cL_rows 1148 = .ok (.iconst 0, 1) := by decide +kernel
theorem dL_rows_1149 : decode cL_rows 1149 = .ok (.iconst 0, 1) := by decide +kernel
theorem dL_rows_1150 : decode cL_rows 1150 = .ok (.invokevirtual 87, 3) := by decide +kernel
theorem dL_rows_1153 : decode cL_rows 1153 = .ok (.iconst 1, 1) := by decide +kernel
theorem dL_rows_1154 : decode cL_rows 1154 = .ok (.if_icmp .ne 187, 3) := by decide +kernel
theorem dL_rows_1157 : decode cL_rows 1157 = .ok (.aload_n 0, 1) := by decide +kernel
theorem dL_rows_1158 : decode cL_rows 1158 = .ok (.iconst 1, 1) := by decide +kernel
theorem dL_rows_1159 : decode cL_rows 1159 = .ok (.iconst 0, 1) := by decide +kernel
theorem dL_rows_1160 : decode cL_rows 1160 = .ok (.iconst 3, 1) := by decide +kernel
theorem dL_rows_1161 : decode cL_rows 1161 = .ok (.invokevirtual 87, 3) := by decide +kernel
theorem dL_rows_1164 : decode cL_rows 1164 = .ok (.ifCond .ne 177, 3) := by decide +kernel
theorem dL_rows_1167 : decode cL_rows 1167 = .ok (.aload_n 0, 1) := by decide +kernel
theorem dL_rows_1168 : decode cL_rows 1168 = .ok (.iconst 0, 1) := by decide +kernel
theorem dL_rows_1169 : decode cL_rows 1169 = .ok (.iconst 1, 1) := by decide +kernel
theorem dL_rows_1170 : decode cL_rows 1170 = .ok (.iconst 1, 1) := by decide +kernel
theorem dL_rows_1171 : decode cL_rows 1171 = .ok (.invokevirtual 87, 3) := by decide +kernel
theorem dL_rows_1174 : decode cL_rows 1174 = .ok (.iconst 1, 1) := by decide +kernel
theorem dL_rows_1175 : decode cL_rows 1175 = .ok (.if_icmp .ne 166, 3) := by decide +kernel
theorem dL_rows_1178 : decode cL_rows 1178 = .ok (.aload_n 0, 1) := by decide +kernel
theorem dL_rows_1179 : decode cL_rows 1179 = .ok (.iconst 0, 1) := by decide +kernel
theorem dL_rows_1180 : decode cL_rows 1180 = .ok (.iconst 0, 1) := by decide +kernel
theorem dL_rows_1181 : decode cL_rows 1181 = .ok (.iconst 0, 1) := by decide +kernel
theorem dL_rows_1182 : decode cL_rows 1182 = .ok (.iconst 0, 1) := by decide +kernel
theorem dL_rows_1183 : decode cL_rows 1183 = .ok (.invokevirtual 63, 3) := by decide +kernel
theorem dL_rows_1186 : decode cL_rows 1186 = .ok (.iconst (-1), 1) := by decide +kernel
theorem dL_rows_1187 : decode cL_rows 1187 = .ok (.if_icmp .ne 154, 3) := by decide +kernel
theorem dL_rows_1190 : decode cL_rows 1190 = .ok (.aload_n 0, 1) := by decide +kernel
theorem dL_rows_1191 : decode cL_rows 1191 = .ok (.iconst 0, 1) := by decide +kernel
theorem dL_rows_1192 : decode cL_rows 1192 = .ok (.iconst 0, 1) := by decide +kernel
theorem dL_rows_1193 : decode cL_rows 1193 = .ok (.iconst 0, 1) := by decide +kernel
theorem dL_rows_1194 : decode cL_rows 1194 = .ok (.iconst 1, 1) := by decide +kernel
theorem dL_rows_1195 : decode cL_rows 1195 = .ok (.invokevirtual 63, 3) := by decide +kernel
theorem dL_rows_1198 : decode cL_rows 1198 = .ok (.iconst 4, 1) := by decide +kernel
theorem dL_rows_1199 : decode cL_rows 1199 = .ok (.if_icmp .ne 142, 3) := by decide +kernel
theorem dL_rows_1202 : decode cL_rows 1202 = .ok (.aload_n 0, 1) := by decide +kernel
theorem dL_rows_1203 : decode cL_rows 1203 = .ok (.iconst 0, 1) := by decide +kernel
theorem dL_rows_1204 : decode cL_rows 1204 = .ok (.iconst 0, 1) := by decide +kernel
theorem dL_rows_1205 : decode cL_rows 1205 = .ok (.iconst 1, 1) := by decide +kernel
theorem dL_rows_1206 : decode cL_rows 1206 = .ok (.iconst 0, 1) := by decide +kernel
theorem dL_rows_1207 : decode cL_rows 1207 = .ok (.invokevirtual 63, 3) := by decide +kernel
theorem dL_rows_1210 : decode cL_rows 1210 = .ok (.iconst 1, 1) := by decide +kernel
theorem dL_rows_1211 : decode cL_rows 1211 = .ok (.if_icmp .ne 130, 3) := by decide +kernel
theorem dL_rows_1214 : decode cL_rows 1214 = .ok (.aload_n 0, 1) := by decide +kernel
theorem dL_rows_1215 : decode cL_rows 1215 = .ok (.iconst 0, 1) := by decide +kernel
theorem dL_rows_1216 : decode cL_rows 1216 = .ok (.iconst 0, 1) := by decide +kernel
theorem dL_rows_1217 : decode cL_rows 1217 = .ok (.iconst 1, 1) := by decide +kernel
theorem dL_rows_1218 : decode cL_rows 1218 = .ok (.bipush 7, 2) := by decide +kernel
theorem dL_rows_1220 : decode cL_rows 1220 = .ok (.invokevirtual 63, 3) := by decide +kernel
theorem dL_rows_1223 : decode cL_rows 1223 = .ok (.iconst 2, 1) := by decide +kernel
theorem dL_rows_1224 : decode cL_rows 1224 = .ok (.if_icmp .ne 117, 3) := by decide +kernel
theorem dL_rows_1227 : decode cL_rows 1227 = .ok (.aload_n 0, 1) := by decide +kernel
theorem dL_rows_1228 : decode cL_rows 1228 = .ok (.iconst 0, 1) := by decide +kernel
theorem dL_rows_1229 : decode cL_rows 1229 = .ok (.iconst 0, 1) := by decide +kernel
theorem dL_rows_1230 : decode cL_rows 1230 = .ok (.iconst 2, 1) := by decide +kernel
theorem dL_rows_1231 : decode cL_rows 1231 = .ok (.iconst 1, 1) := by decide +kernel
theorem dL_rows_1232 : decode cL_rows 1232 = .ok (.invokevirtual 63, 3) := by decide +kernel
theorem dL_rows_1235 : decode cL_rows 1235 = .ok (.iconst 1, 1) := by decide +kernel
theorem dL_rows_1236 : decode cL_rows 1236 = .ok (.if_icmp .ne 105, 3) := by decide +kernel
theorem dL_rows_1239 : decode cL_rows 1239 = .ok (.aload_n 0, 1) := by decide +kernel
theorem dL_rows_1240 : decode cL_rows 1240 = .ok (.iconst 0, 1) := by decide +kernel
theorem dL_rows_1241 : decode cL_rows 1241 = .ok (.iconst 0, 1) := by decide +kernel
theorem dL_rows_1242 : decode cL_rows 1242 = .ok (.iconst 2, 1) := by decide +kernel
theorem dL_rows_1243 : decode cL_rows 1243 = .ok (.iconst 4, 1) := by decide +kernel
theorem dL_rows_1244 : decode cL_rows 1244 = .ok (.invokevirtual 63, 3) := by decide +kernel
theorem dL_rows_1247 : decode cL_rows 1247 = .ok (.iconst 3, 1) := by decide +kernel
theorem dL_rows_1248 : decode cL_rows 1248 = .ok (.if_icmp .ne 93, 3) := by decide +kernel
theorem dL_rows_1251 : decode cL_rows 1251 = .ok (.aload_n 0, 1) := by decide +kernel
theorem dL_rows_1252 : decode cL_rows 1252 = .ok (.iconst 0, 1) := by decide +kernel
theorem dL_rows_1253 : decode cL_rows 1253 = .ok (.iconst 0, 1) := by decide +kernel
theorem dL_rows_1254 : decode cL_rows 1254 = .ok (.iconst 3, 1) := by decide +kernel
theorem dL_rows_1255 : decode cL_rows 1255 = .ok (.iconst 0, 1) := by decide +kernel
theorem dL_rows_1256 : decode cL_rows 1256 = .ok (.invokevirtual 63, 3) := by decide +kernel
theorem dL_rows_1259 : decode cL_rows 1259 = .ok (.bipush (-2), 2) := by decide +kernel
theorem dL_rows_1261 : decode cL_rows 1261 = .ok (.if_icmp .ne 80, 3) := by decide +kernel
theorem dL_rows_1264 : decode cL_rows 1264 = .ok (.aload_n 0, 1) := by decide +kernel
theorem dL_rows_1265 : decode cL_rows 1265 = .ok (.iconst 0, 1) := by decide +kernel
theorem dL_rows_1266 : decode cL_rows 1266 = .ok (.iconst 2, 1) := by decide +kernel
theorem dL_rows_1267 : decode cL_rows 1267 = .ok (.iconst 0, 1) := by decide +kernel
theorem dL_rows_1268 : decode cL_rows 1268 = .ok (.invokevirtual 60, 3) := by decide +kernel
theorem dL_rows_1271 : decode cL_rows 1271 = .ok (.iconst 2, 1) := by decide +kernel
theorem dL_rows_1272 : decode cL_rows 1272 = .ok (.if_icmp .ne 69, 3) := by decide +kernel
theorem dL_rows_1275 : decode cL_rows 1275 = .ok (.aload_n 0, 1) := by decide +kernel
theorem dL_rows_1276 : decode cL_rows 1276 = .ok (.iconst 0, 1) := by decide +kernel
theorem dL_rows_1277 : decode cL_rows 1277 = .ok (.iconst 2, 1) := by decide +kernel
theorem dL_rows_1278 : decode cL_rows 1278 = .ok (.iconst 1, 1) := by decide +kernel
theorem dL_rows_1279 : decode cL_rows 1279 = .ok (.invokevirtual 60, 3) := by decide +kernel
theorem dL_rows_1282 : decode cL_rows 1282 = .ok (.iconst 1, 1) := by decide +kernel
theorem dL_rows_1283 : decode cL_rows 1283 = .ok (.if_icmp .ne 58, 3) := by decide +kernel
theorem dL_rows_1286 : decode cL_rows 1286 = .ok (.aload_n 0, 1) := by decide +kernel
theorem dL_rows_1287 : decode cL_rows 1287 = .ok (.iconst 0, 1) := by decide +kernel
theorem dL_rows_1288 : decode cL_rows 1288 = .ok (.iconst 2, 1) := by decide +kernel
theorem dL_rows_1289 : decode cL_rows 1289 = .ok (.iconst 2, 1) := by decide +kernel
theorem dL_rows_1290 : decode cL_rows 1290 = .ok (.invokevirtual 60, 3) := by decide +kernel
theorem dL_rows_1293 : decode cL_rows 1293 = .ok (.iconst 3, 1) := by decide +kernel
theorem dL_rows_1294 : decode cL_rows 1294 = .ok (.if_icmp .ne 47, 3) := by decide +kernel
theorem dL_rows_1297 : decode cL_rows 1297 = .ok (.aload_n 0, 1) := by decide +kernel
theorem dL_rows_1298 : decode cL_rows 1298 = .ok (.iconst 0, 1) := by decide +kernel
theorem dL_rows_1299 : decode cL_rows 1299 = .ok (.iconst 2, 1) := by decide +kernel
theorem dL_rows_1300 : decode cL_rows 1300 = .ok (.iconst 3, 1) := by decide +kernel
theorem dL_rows_1301 : decode cL_rows 1301 = .ok (.invokevirtual 60, 3) := by decide +kernel
theorem dL_rows_1304 : decode cL_rows 1304 = .ok (.ifCond .ne 37, 3) := by decide +kernel
theorem dL_rows_1307 : decode cL_rows 1307 = .ok (.aload_n 0, 1) := by decide +kernel
theorem dL_rows_1308 : decode cL_rows 1308 = .ok (.iconst 0, 1) := by decide +kernel
theorem dL_rows_1309 : decode cL_rows 1309 = .ok (.iconst 2, 1) := by decide +kernel
theorem dL_rows_1310 : decode cL_rows 1310 = .ok (.iconst 4, 1) := by decide +kernel
theorem dL_rows_1311 : decode cL_rows 1311 = .ok (.invokevirtual 60, 3) := by decide +kernel
theorem dL_rows_1314 : decode cL_rows 1314 = .ok (.iconst 3, 1) := by decide +kernel
theorem dL_rows_1315 : decode cL_rows 1315 = .ok (.if_icmp .ne 26, 3) := by decide +kernel
theorem dL_rows_1318 : decode cL_rows 1318 = .ok (.aload_n 0, 1) := by decide +kernel
theorem dL_rows_1319 : decode cL_rows 1319 = .ok (.iconst 0, 1) := by decide +kernel
theorem dL_rows_1320 : decode cL_rows 1320 = .ok (.iconst 2, 1) := by decide +kernel
theorem dL_rows_1321 : decode cL_rows 1321 = .ok (.bipush 6, 2) := by decide +kernel
theorem dL_rows_1323 : decode cL_rows 1323 = .ok (.invokevirtual 60, 3) := by decide +kernel
theorem dL_rows_1326 : decode cL_rows 1326 = .ok (.iconst 1, 1) := by decide +kernel
theorem dL_rows_1327 : decode cL_rows 1327 = .ok (.if_icmp .ne 14, 3) := by decide +kernel
theorem dL_rows_1330 : decode cL_rows 1330 = .ok (.aload_n 0, 1) := by decide +kernel
theorem dL_rows_1331 : decode cL_rows 1331 = .ok (.iconst 1, 1) := by decide +kernel
theorem dL_rows_1332 : decode cL_rows 1332 = .ok (.iconst 1, 1) := by decide +kernel
theorem dL_rows_1333 : decode cL_rows 1333 = .ok (.iconst 5, 1) := by decide +kernel
theorem dL_rows_1334 : decode cL_rows 1334 = .ok (.invokevirtual 60, 3) := by decide +kernel
theorem dL_rows_1337 : decode cL_rows 1337 = .ok (.iconst 2, 1) := by decide +kernel
theorem dL_rows_1338 : decode cL_rows 1338 = .ok (.if_icmp .eq 5, 3) := by decide +kernel
theorem dL_rows_1341 : decode cL_rows 1341 = .ok (.iconst 0, 1) := by decide +kernel
theorem dL_rows_1342 : decode cL_rows 1342 = .ok (.ireturn, 1) := by decide +kernel
theorem dL_rows_1343 : decode cL_rows 1343 = .ok (.aload_n 0, 1) := by decide +kernel
theorem dL_rows_1344 : decode cL_rows 1344 = .ok (.iconst 0, 1) := by decide +kernel
theorem dL_rows_1345 : decode cL_rows 1345 = .ok (.invokevirtual 50, 3) := by decide +kernel
theorem dL_rows_1348 : decode cL_rows 1348 = .ok (.iconst 5, 1) := by decide +kernel
theorem dL_rows_1349 : decode cL_rows 1349 = .ok (.if_icmp .ne 135, 3) := by decide +kernel
theorem dL_rows_1352 : decode cL_rows 1352 = .ok (.aload_n 0, 1) := by decide +kernel
theorem dL_rows_1353 : decode cL_rows 1353 = .ok (.iconst 0, 1) := by decide +kernel
theorem dL_rows_1354 : decode cL_rows 1354 = .ok (.bipush (-2), 2) := by decide +kernel
theorem dL_rows_1356 : decode cL_rows 1356 = .ok (.invokevirtual 34, 3) := by decide +kernel
theorem dL_rows_1359 : decode cL_rows 1359 = .ok (.ifCond .ne 125, 3) := by decide +kernel
theorem dL_rows_1362 : decode cL_rows 1362 = .ok (.aload_n 0, 1) := by decide +kernel
theorem dL_rows_1363 : decode cL_rows 1363 = .ok (.iconst 0, 1) := by decide +kernel
theorem dL_rows_1364 : decode cL_rows 1364 = .ok (.iconst 0, 1) := by decide +kernel
theorem dL_rows_1365 : decode cL_rows 1365 = .ok (.iconst 0, 1) := by decide +kernel
theorem dL_rows_1366 : decode cL_rows 1366 = .ok (.iconst (-1), 1) := by decide +kernel
theorem dL_rows_1367 : decode cL_rows 1367 = .ok (.invokevirtual 40, 3) := by decide +kernel
theorem dL_rows_1370 : decode cL_rows 1370 = .ok (.iconst 1, 1) := by decide +kernel
theorem dL_rows_1371 : decode cL_rows 1371 = .ok (.if_icmp .ne 113, 3) := by decide +kernel
theorem dL_rows_1374 : decode cL_rows 1374 = .ok (.aload_n 0, 1) := by decide +kernel
theorem dL_rows_1375 : decode cL_rows 1375 = .ok (.iconst 0, 1) := by decide +kernel
theorem dL_rows_1376 : decode cL_rows 1376 = .ok (.iconst 0, 1) := by decide +kernel
theorem dL_rows_1377 : decode cL_rows 1377 = .ok (.iconst 1, 1) := by decide +kernel
theorem dL_rows_1378 : decode cL_rows 1378 = .ok (.iconst 1, 1) := by decide +kernel
theorem dL_rows_1379 : decode cL_rows 1379 = .ok (.invokevirtual 69, 3) := by decide +kernel
theorem dL_rows_1382 : decode cL_rows 1382 = .ok (.iconst 5, 1) := by decide +kernel
theorem dL_rows_1383 : decode cL_rows 1383 = .ok (.if_icmp .ne 101, 3) := by decide +kernel
theorem dL_rows_1386 : decode cL_rows 1386 = .ok (.aload_n 0, 1) := by decide +kernel
theorem dL_rows_1387 : decode cL_rows 1387 = .ok (.iconst 0, 1) := by decide +kernel
theorem dL_rows_1388 : decode cL_rows 1388 = .ok (.iconst 1, 1) := by decide +kernel
theorem dL_rows_1389 : decode cL_rows 1389 = .ok (.invokevirtual 37, 3) := by decide +kernel
theorem dL_rows_1392 : decode cL_rows 1392 = .ok (.iconst 1, 1) := by decide +kernel
theorem dL_rows_1393 : decode cL_rows 1393 = .ok (.if_icmp .ne 91, 3) := by decide +kernel
theorem dL_rows_1396 : decode cL_rows 1396 = .ok (.aload_n 0, 1) := by decide +kernel
theorem dL_rows_1397 : decode cL_rows 1397 = .ok (.iconst 0, 1) := by decide +kernel
theorem dL_rows_1398 : decode cL_rows 1398 = .ok (.invokevirtual 90, 3) := by decide +kernel
theorem dL_rows_1401 : decode cL_rows 1401 = .ok (.iconst 2, 1) := by decide +kernel
theorem dL_rows_1402 : decode cL_rows 1402 = .ok (.if_icmp .ne 82, 3) := by decide +kernel
theorem dL_rows_1405 : decode cL_rows 1405 = .ok (.aload_n 0, 1) := by decide +kernel
theorem dL_rows_1406 : decode cL_rows 1406 = .ok (.iconst 0, 1) := by decide +kernel
theorem dL_rows_1407 : decode cL_rows 1407 = .ok (.iconst 0, 1) := by decide +kernel
theorem dL_rows_1408 : decode cL_rows 1408 = .ok (.iconst 1, 1) := by decide +kernel
theorem dL_rows_1409 : decode cL_rows 1409 = .ok (.invokevirtual 56, 3) := by decide +kernel
theorem dL_rows_1412 : decode cL_rows 1412 = .ok (.iconst 2, 1) := by decide +kernel
theorem dL_rows_1413 : decode cL_rows 1413 = .ok (.if_icmp .ne 71, 3) := by decide +kernel
theorem dL_rows_1416 : decode cL_rows 1416 = .ok (.aload_n 0, 1) := by decide +kernel
theorem dL_rows_1417 : decode cL_rows 1417 = .ok (.iconst 0, 1) := by decide +kernel
theorem dL_rows_1418 : decode cL_rows 1418 = .ok (.iconst 0, 1) := by decide +kernel
theorem dL_rows_1419 : decode cL_rows 1419 = .ok (.invokevirtual 23, 3) := by decide +kernel
theorem dL_rows_1422 : decode cL_rows 1422 = .ok (.iconst 1, 1) := by decide +kernel
theorem dL_rows_1423 : decode cL_rows 1423 = .ok (.if_icmp .ne 61, 3) := by decide +kernel
theorem dL_rows_1426 : decode cL_rows 1426 = .ok (.aload_n 0, 1) := by decide +kernel
theorem dL_rows_1427 : decode cL_rows 1427 = .ok (.iconst 0, 1) := by decide +kernel
theorem dL_rows_1428 : decode cL_rows 1428 = .ok (.invokevirtual 53, 3) := by decide +kernel
theorem dL_rows_1431 : decode cL_rows 1431 = .ok (.iconst 5, 1) := by decide +kernel
theorem dL_rows_1432 : decode cL_rows 1432 = .ok (.if_icmp .ne 52, 3) := by decide +kernel
theorem dL_rows_1435 : decode cL_rows 1435 = .ok (.aload_n 0, 1) := by decide +kernel
theorem dL_rows_1436 : decode cL_rows 1436 = .ok (.iconst 3, 1) := by decide +kernel
theorem dL_rows_1437 : decode cL_rows 1437 = .ok (.invokevirtual 90, 3) := by decide +kernel
theorem dL_rows_1440 : decode cL_rows 1440 = .ok (.iconst 2, 1) := by decide +kernel
theorem dL_rows_1441 : decode cL_rows 1441 = .ok (.if_icmp .ne 43, 3) := by decide +kernel
theorem dL_rows_1444 : decode cL_rows 1444 = .ok (.aload_n 0, 1) := by decide +kernel
theorem dL_rows_1445 : decode cL_rows 1445 = .ok (.iconst 0, 1) := by decide +kernel
theorem dL_rows_1446 : decode cL_rows 1446 = .ok (.bipush 10, 2) := by decide +kernel
theorem dL_rows_1448 : decode cL_rows 1448 = .ok (.iconst 0, 1) := by decide +kernel
theorem dL_rows_1449 : decode cL_rows 1449 = .ok (.iconst 0, 1) := by decide +kernel
theorem dL_rows_1450 : decode cL_rows 1450 = .ok (.iconst 0, 1) := by decide +kernel
theorem dL_rows_1451 : decode cL_rows 1451 = .ok (.invokevirtual 13, 3) := by decide +kernel
theorem dL_rows_1454 : decode cL_rows 1454 = .ok (.bipush (-2), 2) := by decide +kernel
theorem dL_rows_1456 : decode cL_rows 1456 = .ok (.if_icmp .ne 28, 3) := by decide +kernel
theorem dL_rows_1459 : decode cL_rows 1459 = .ok (.aload_n 0, 1) := by decide +kernel
theorem dL_rows_1460 : decode cL_rows 1460 = .ok (.iconst 0, 1) := by decide +kernel
theorem dL_rows_1461 : decode cL_rows 1461 = .ok (.iconst 0, 1) := by decide +kernel
theorem dL_rows_1462 : decode cL_rows 1462 = .ok (.invokevirtual 37, 3) := by decide +kernel
theorem dL_rows_1465 : decode cL_rows 1465 = .ok (.iconst 1, 1) := by decide +kernel
theorem dL_rows_1466 : decode cL_rows 1466 = .ok (.if_icmp .ne 18, 3) := by decide +kernel
theorem dL_rows_1469 : decode cL_rows 1469 = .ok (.aload_n 0, 1) := by decide +kernel
theorem dL_rows_1470 : decode cL_rows 1470 = .ok (.iconst 0, 1) := by decide +kernel
theorem dL_rows_1471 : decode cL_rows 1471 = .ok (.iconst 0, 1) := by decide +kernel
theorem dL_rows_1472 : decode cL_rows 1472 = .ok (.iconst 0, 1) := by decide +kernel
theorem dL_rows_1473 : decode cL_rows 1473 = .ok (.invokevirtual 56, 3) := by decide +kernel
theorem dL_rows_1476 : decode cL_rows 1476 = .ok (.iconst 1, 1) := by decide +kernel
theorem dL_rows_1477 : decode cL_rows 1477 = .ok (.if_icmp .ne 7, 3) := by decide +kernel
theorem dL_rows_1480 : decode cL_rows 1480 = .ok (.iconst 1, 1) := by decide +kernel
theorem dL_rows_1481 : decode cL_rows 1481 = .ok (.goto 4, 3) := by decide +kernel
theorem dL_rows_1484 : decode cL_rows 1484 = .ok (.iconst 0, 1) := by decide +kernel
theorem dL_rows_1485 : decode cL_rows 1485 = .ok (.ireturn, 1) := by decide +kernel
theorem dL_limits_0 : decode cL_limits 0 = .ok (.new 14, 3) := by decide +kernel
theorem dL_limits_3 : decode cL_limits 3 = .ok (.dup, 1) := by decide +kernel
theorem dL_limits_4 : decode cL_limits 4 = .ok (.invokespecial 149, 3) := by decide +kernel
theorem dL_limits_7 : decode cL_limits 7 = .ok (.astore_n 0, 1) := by decide +kernel
theorem dL_limits_8 : decode cL_limits 8 = .ok (.iconst 0, 1) := by decide +kernel
theorem dL_limits_9 : decode cL_limits 9 = .ok (.istore_n 1, 1) := by decide +kernel
theorem dL_limits_10 : decode cL_limits 10 = .ok (.iload_n 1, 1) := by decide +kernel
theorem dL_limits_11 : decode cL_limits 11 = .ok (.bipush 16, 2) := by decide +kernel
theorem dL_limits_13 : decode cL_limits 13 = .ok (.if_icmp .ge 29, 3) := by decide +kernel
theorem dL_limits_16 : decode cL_limits 16 = .ok (.aload_n 0, 1) := by decide +kernel
theorem dL_limits_17 : decode cL_limits 17 = .ok (.iconst 1, 1) := by decide +kernel
theorem dL_limits_18 : decode cL_limits 18 = .ok (.iload_n 1, 1) := by decide +kernel
theorem dL_limits_19 : decode cL_limits 19 = .ok (.bipush 99, 2) := by decide +kernel
theorem dL_limits_21 : decode cL_limits 21 = .ok (.iload_n 1, 1) := by decide +kernel
theorem dL_limits_22 : decode cL_limits 22 = .ok (.isub, 1) := by decide +kernel
theorem dL_limits_23 : decode cL_limits 23 = .ok (.iconst (-1), 1) := by decide +kernel
theorem dL_limits_24 : decode cL_limits 24 = .ok (.iload_n 1, 1) := by decide +kernel
theorem dL_limits_25 : decode cL_limits 25 = .ok (.iconst 3, 1) := by decide +kernel
theorem dL_limits_26 : decode cL_limits 26 = .ok (.irem, 1) := by decide +kernel
theorem dL_limits_27 : decode cL_limits 27 = .ok (.invokevirtual 13, 3) := by decide +kernel
theorem dL_limits_30 : decode cL_limits 30 = .ok (.iload_n 1, 1) := by decide +kernel
theorem dL_limits_31 : decode cL_limits 31 = .ok (.if_icmp .eq 5, 3) := by decide +kernel
theorem dL_limits_34 : decode cL_limits 34 = .ok (.iconst 0, 1) := by decide +kernel
theorem dL_limits_35 : decode cL_limits 35 = .ok (.ireturn, 1) := by decide +kernel
theorem dL_limits_36 : decode cL_limits 36 = .ok (.iinc 1 1, 3) := by decide +kernel
theorem dL_limits_39 : decode cL_limits 39 = .ok (.goto (-29), 3) := by decide +kernel
theorem dL_limits_42 : decode cL_limits 42 = .ok (.aload_n 0, 1) := by decide +kernel
theorem dL_limits_43 : decode cL_limits 43 = .ok (.iconst 0, 1) := by decide +kernel
theorem dL_limits_44 : decode cL_limits 44 = .ok (.iconst 1, 1) := by decide +kernel
theorem dL_limits_45 : decode cL_limits 45 = .ok (.iconst 0, 1) := by decide +kernel
theorem dL_limits_46 : decode cL_limits 46 = .ok (.iconst 0, 1) := by decide +kernel
theorem dL_limits_47 : decode cL_limits 47 = .ok (.iconst 0, 1) := by decide +kernel
theorem dL_limits_48 : decode cL_limits 48 = .ok (.iconst 0, 1) := by decide +kernel
theorem dL_limits_49 : decode cL_limits 49 = .ok (.invokestatic 125, 3) := by decide +kernel
theorem dL_limits_52 : decode cL_limits 52 = .ok (.invokestatic 121, 3) := by decide +kernel
theorem dL_limits_55 : decode cL_limits 55 = .ok (.ldc 105, 2) := by decide +kernel
theorem dL_limits_57 : decode cL_limits 57 = .ok (.if_icmp .ne 189, 3) := by decide +kernel
theorem dL_limits_60 : decode cL_limits 60 = .ok (.aload_n 0, 1) := by decide +kernel
theorem dL_limits_61 : decode cL_limits 61 = .ok (.iconst 0, 1) := by decide +kernel
theorem dL_limits_62 : decode cL_limits 62 = .ok (.iconst 1, 1) := by decide +kernel
theorem dL_limits_63 : decode cL_limits 63 = .ok (.bipush 100, 2) := by decide +kernel
theorem dL_limits_65 : decode cL_limits 65 = .ok (.iconst 0, 1) := by decide +kernel
theorem dL_limits_66 : decode cL_limits 66 = .ok (.iconst 0, 1) := by decide +kernel
theorem dL_limits_67 : decode cL_limits 67 = .ok (.iconst 0, 1) := by decide +kernel
theorem dL_limits_68 : decode cL_limits 68 = .ok (.invokestatic 125, 3) := by decide +kernel
theorem dL_limits_71 : decode cL_limits 71 = .ok (.invokestatic 121, 3) := by decide +kernel
theorem dL_limits_74 : decode cL_limits 74 = .ok (.ldc 102, 2) := by decide +kernel
theorem dL_limits_76 : decode cL_limits 76 = .ok (.if_icmp .ne 170, 3) := by decide +kernel
theorem dL_limits_79 : decode cL_limits 79 = .ok (.aload_n 0, 1) := by decide +kernel
theorem dL_limits_80 : decode cL_limits 80 = .ok (.iconst 1, 1) := by decide +kernel
theorem dL_limits_81 : decode cL_limits 81 = .ok (.iconst 0, 1) := by decide +kernel
theorem dL_limits_82 : decode cL_limits 82 = .ok (.iconst 2, 1) := by decide +kernel
theorem dL_limits_83 : decode cL_limits 83 = .ok (.invokevirtual 60, 3) := by decide +kernel
theorem dL_limits_86 : decode cL_limits 86 = .ok (.bipush 120, 2) := by decide +kernel
theorem dL_limits_88 : decode cL_limits 88 = .ok (.if_icmp .ne 158, 3) := by decide +kernel
theorem dL_limits_91 : decode cL_limits 91 = .ok (.aload_n 0, 1) := by decide +kernel
theorem dL_limits_92 : decode cL_limits 92 = .ok (.iconst 1, 1) := by decide +kernel
theorem dL_limits_93 : decode cL_limits 93 = .ok (.iconst 0, 1) := by decide +kernel
theorem dL_limits_94 : decode cL_limits 94 = .ok (.bipush 6, 2) := by decide +kernel
theorem dL_limits_96 : decode cL_limits 96 = .ok (.invokevirtual 60, 3) := by decide +kernel
theorem dL_limits_99 : decode cL_limits 99 = .ok (.bipush 7, 2) := by decide +kernel
theorem dL_limits_101 : decode cL_limits 101 = .ok (.if_icmp .ne 145, 3) := by decide +kernel
theorem dL_limits_104 : decode cL_limits 104 = .ok (.aload_n 0, 1) := by decide +kernel
theorem dL_limits_105 : decode cL_limits 105 = .ok (.iconst 1, 1) := by decide +kernel
theorem dL_limits_106 : decode cL_limits 106 = .ok (.iconst 1, 1) := by decide +kernel
theorem dL_limits_107 : decode cL_limits 107 = .ok (.bipush 6, 2) := by decide +kernel
theorem dL_limits_109 : decode cL_limits 109 = .ok (.invokevirtual 60, 3) := by decide +kernel
theorem dL_limits_112 : decode cL_limits 112 = .ok (.bipush 91, 2) := by decide +kernel
theorem dL_limits_114 : decode cL_limits 114 = .ok (.if_icmp .ne 132, 3) := by decide +kernel
theorem dL_limits_117 : decode cL_limits 117 = .ok (.aload_n 0, 1) := by decide +kernel
theorem dL_limits_118 : decode cL_limits 118 = .ok (.iconst 1, 1) := by decide +kernel
theorem dL_limits_119 : decode cL_limits 119 = .ok (.iconst 3, 1) := by decide +kernel
theorem dL_limits_120 : decode cL_limits 120 = .ok (.iconst 5, 1) := by decide +kernel
theorem dL_limits_121 : decode cL_limits 121 = .ok (.invokevirtual 60, 3) := by decide +kernel
theorem dL_limits_124 : decode cL_limits 124 = .ok (.iconst 3, 1) := by decide +kernel
theorem dL_limits_125 : decode cL_limits 125 = .ok (.if_icmp .ne 121, 3) := by decide +kernel
theorem dL_limits_128 : decode cL_limits 128 = .ok (.aload_n 0, 1) := by decide +kernel
theorem dL_limits_129 : decode cL_limits 129 = .ok (.iconst 1, 1) := by decide +kernel
theorem dL_limits_130 : decode cL_limits 130 = .ok (.iconst 3, 1) := by decide +kernel
theorem dL_limits_131 : decode cL_limits 131 = .ok (.iconst 0, 1) := by decide +kernel
theorem dL_limits_132 : decode cL_limits 132 = .ok (.iconst 1, 1) := by decide +kernel
theorem dL_limits_133 : decode cL_limits 133 = .ok (.invokevirtual 63, 3) := by decide +kernel
theorem dL_limits_136 : decode cL_limits 136 = .ok (.ldc 186, 2) := by decide +kernel
theorem dL_limits_138 : decode cL_limits 138 = .ok (.if_icmp .ne 108, 3) := by decide +kernel
theorem dL_limits_141 : decode cL_limits 141 = .ok (.aload_n 0, 1) := by decide +kernel
theorem dL_limits_142 : decode cL_limits 142 = .ok (.iconst 1, 1) := by decide +kernel
theorem dL_limits_143 : decode cL_limits 143 = .ok (.iconst 3, 1) := by decide +kernel
theorem dL_limits_144 : decode cL_limits 144 = .ok (.iconst 2, 1) := by decide +kernel
theorem dL_limits_145 : decode cL_limits 145 = .ok (.bipush 6, 2) := by decide +kernel
theorem dL_limits_147 : decode cL_limits 147 = .ok (.invokevirtual 63, 3) := by decide +kernel
theorem dL_limits_150 : decode cL_limits 150 = .ok (.iconst 5, 1) := by decide +kernel
theorem dL_limits_151 : decode cL_limits 151 = .ok (.if_icmp .ne 95, 3) := by decide +kernel
theorem dL_limits_154 : decode cL_limits 154 = .ok (.aload_n 0, 1) := by decide +kernel
theorem dL_limits_155 : decode cL_limits 155 = .ok (.iconst 1, 1) := by decide +kernel
theorem dL_limits_156 : decode cL_limits 156 = .ok (.iconst 2, 1) := by decide +kernel
theorem dL_limits_157 : decode cL_limits 157 = .ok (.iconst 0, 1) := by decide +kernel
theorem dL_limits_158 : decode cL_limits 158 = .ok (.bipush 6, 2) := by decide +kernel
theorem dL_limits_160 : decode cL_limits 160 = .ok (.invokevirtual 63, 3) := by decide +kernel
theorem dL_limits_163 : decode cL_limits 163 = .ok (.bipush 16, 2) := by decide +kernel
theorem dL_limits_165 : decode cL_limits 165 = .ok (.if_icmp .ne 81, 3) := by decide +kernel
theorem dL_limits_168 : decode cL_limits 168 = .ok (.aload_n 0, 1) := by decide +kernel
theorem dL_limits_169 : decode cL_limits 169 = .ok (.iconst 1, 1) := by decide +kernel
theorem dL_limits_170 : decode cL_limits 170 = .ok (.iconst 2, 1) := by decide +kernel
theorem dL_limits_171 : decode cL_limits 171 = .ok (.iconst 4, 1) := by decide +kernel
theorem dL_limits_172 : decode cL_limits 172 = .ok (.invokevirtual 60, 3) := by decide +kernel
theorem dL_limits_175 : decode cL_limits 175 = .ok (.bipush (-2), 2) := by decide +kernel
theorem dL_limits_177 : decode cL_limits 177 = .ok (.if_icmp .ne 69, 3) := by decide +kernel
theorem dL_limits_180 : decode cL_limits 180 = .ok (.aload_n 0, 1) := by decide +kernel
theorem dL_limits_181 : decode cL_limits 181 = .ok (.iconst 0, 1) := by decide +kernel
theorem dL_limits_182 : decode cL_limits 182 = .ok (.ldc2_w 187, 3) := by decide +kernel
theorem dL_limits_185 : decode cL_limits 185 = .ok (.lconst 0, 1) := by decide +kernel
theorem dL_limits_186 : decode cL_limits 186 = .ok (.iconst 3, 1) := by decide +kernel
theorem dL_limits_187 : decode cL_limits 187 = .ok (.invokestatic 156, 3) := by decide +kernel
theorem dL_limits_190 : decode cL_limits 190 = .ok (.ifCond .eq 56, 3) := by decide +kernel
theorem dL_limits_193 : decode cL_limits 193 = .ok (.aload_n 0, 1) := by decide +kernel
theorem dL_limits_194 : decode cL_limits 194 = .ok (.iconst 1, 1) := by decide +kernel
theorem dL_limits_195 : decode cL_limits 195 = .ok (.iconst 0, 1) := by decide +kernel
theorem dL_limits_196 : decode cL_limits 196 = .ok (.iconst 2, 1) := by decide +kernel
theorem dL_limits_197 : decode cL_limits 197 = .ok (.iconst 1, 1) := by decide +kernel
theorem dL_limits_198 : decode cL_limits 198 = .ok (.invokevirtual 69, 3) := by decide +kernel
theorem dL_limits_201 : decode cL_limits 201 = .ok (.ldc 189, 2) := by decide +kernel
theorem dL_limits_203 : decode cL_limits 203 = .ok (.if_icmp .ne 43, 3) := by decide +kernel
theorem dL_limits_206 : decode cL_limits 206 = .ok (.aload_n 0, 1) := by decide +kernel
theorem dL_limits_207 : decode cL_limits 207 = .ok (.iconst 1, 1) := by decide +kernel
theorem dL_limits_208 : decode cL_limits 208 = .ok (.ldc2_w 190, 3) := by decide +kernel
theorem dL_limits_211 : decode cL_limits 211 = .ok (.lconst 0, 1) := by decide +kernel
theorem dL_limits_212 : decode cL_limits 212 = .ok (.iconst 3, 1) := by decide +kernel
theorem dL_limits_213 : decode cL_limits 213 = .ok (.invokestatic 156, 3) := by decide +kernel
theorem dL_limits_216 : decode cL_limits 216 = .ok (.ifCond .eq 30, 3) := by decide +kernel
theorem dL_limits_219 : decode cL_limits 219 = .ok (.aload_n 0, 1) := by decide +kernel
theorem dL_limits_220 : decode cL_limits 220 = .ok (.iconst 1, 1) := by decide +kernel
theorem dL_limits_221 : decode cL_limits 221 = .ok (.iconst 1, 1) := by decide +kernel
theorem dL_limits_222 : decode cL_limits 222 = .ok (.iconst 2, 1) := by decide +kernel
theorem dL_limits_223 : decode cL_limits 223 = .ok (.iconst 0, 1) := by decide +kernel
theorem dL_limits_224 : decode cL_limits 224 = .ok (.invokevirtual 69, 3) := by decide +kernel
theorem dL_limits_227 : decode cL_limits 227 = .ok (.sipush 28080, 3) := by decide +kernel
theorem dL_limits_230 : decode cL_limits 230 = .ok (.if_icmp .ne 16, 3) := by decide +kernel
theorem dL_limits_233 : decode cL_limits 233 = .ok (.aload_n 0, 1) := by decide +kernel
theorem dL_limits_234 : decode cL_limits 234 = .ok (.iconst 1, 1) := by decide +kernel
theorem dL_limits_235 : decode cL_limits 235 = .ok (.iconst 1, 1) := by decide +kernel
theorem dL_limits_236 : decode cL_limits 236 = .ok (.iconst 0, 1) := by decide +kernel
theorem dL_limits_237 : decode cL_limits 237 = .ok (.iconst 1, 1) := by decide +kernel
theorem dL_limits_238 : decode cL_limits 238 = .ok (.invokevirtual 69, 3) := by decide +kernel
theorem dL_limits_241 : decode cL_limits 241 = .ok (.ldc 192, 2) := by decide +kernel
theorem dL_limits_243 : decode cL_limits 243 = .ok (.if_icmp .eq 5, 3) := by decide +kernel
theorem dL_limits_246 : decode cL_limits 246 = .ok (.iconst 0, 1) := by decide +kernel
theorem dL_limits_247 : decode cL_limits 247 = .ok (.ireturn, 1) := by decide +kernel
theorem dL_limits_248 : decode cL_limits 248 = .ok (.aload_n 0, 1) := by decide +kernel
theorem dL_limits_249 : decode cL_limits 249 = .ok (.iconst 2, 1) := by decide +kernel
theorem dL_limits_250 : decode cL_limits 250 = .ok (.ldc2_w 193, 3) := by decide +kernel
theorem dL_limits_253 : decode cL_limits 253 = .ok (.ldc2_w 195, 3) := by decide +kernel
theorem dL_limits_256 : decode cL_limits 256 = .ok (.iconst 5, 1) := by decide +kernel
theorem dL_limits_257 : decode cL_limits 257 = .ok (.invokestatic 156, 3) := by decide +kernel
theorem dL_limits_260 : decode cL_limits 260 = .ok (.ifCond .eq 208, 3) := by decide +kernel
theorem dL_limits_263 : decode cL_limits 263 = .ok (.aload_n 0, 1) := by decide +kernel
theorem dL_limits_264 : decode cL_limits 264 = .ok (.iconst 2, 1) := by decide +kernel
theorem dL_limits_265 : decode cL_limits 265 = .ok (.ldc2_w 193, 3) := by decide +kernel
theorem dL_limits_268 : decode cL_limits 268 = .ok (.ldc2_w 195, 3) := by decide +kernel
theorem dL_limits_271 : decode cL_limits 271 = .ok (.invokestatic 162, 3) := by decide +kernel
theorem dL_limits_274 : decode cL_limits 274 = .ok (.ifCond .eq 194, 3) := by decide +kernel
theorem dL_limits_277 : decode cL_limits 277 = .ok (.aload_n 0, 1) := by decide +kernel
theorem dL_limits_278 : decode cL_limits 278 = .ok (.iconst 2, 1) := by decide +kernel
theorem dL_limits_279 : decode cL_limits 279 = .ok (.iconst 1, 1) := by decide +kernel
theorem dL_limits_280 : decode cL_limits 280 = .ok (.invokevirtual 72, 3) := by decide +kernel
theorem dL_limits_283 : decode cL_limits 283 = .ok (.iconst 3, 1) := by decide +kernel
theorem dL_limits_284 : decode cL_limits 284 = .ok (.if_icmp .ne 184, 3) := by decide +kernel
theorem dL_limits_287 : decode cL_limits 287 = .ok (.aload_n 0, 1) := by decide +kernel
theorem dL_limits_288 : decode cL_limits 288 = .ok (.iconst 2, 1) := by decide +kernel
theorem dL_limits_289 : decode cL_limits 289 = .ok (.ldc2_w 197, 3) := by decide +kernel
theorem dL_limits_292 : decode cL_limits 292 = .ok (.ldc2_w 199, 3) := by decide +kernel
theorem dL_limits_295 : decode cL_limits 295 = .ok (.iconst 5, 1) := by decide +kernel
theorem dL_limits_296 : decode cL_limits 296 = .ok (.invokestatic 156, 3) := by decide +kernel
theorem dL_limits_299 : decode cL_limits 299 = .ok (.ifCond .eq 169, 3) := by decide +kernel
theorem dL_limits_302 : decode cL_limits 302 = .ok (.aload_n 0, 1) := by decide +kernel
theorem dL_limits_303 : decode cL_limits 303 = .ok (.iconst 2, 1) := by decide +kernel
theorem dL_limits_304 : decode cL_limits 304 = .ok (.ldc2_w 201, 3) := by decide +kernel
theorem dL_limits_307 : decode cL_limits 307 = .ok (.lconst 0, 1) := by decide +kernel
theorem dL_limits_308 : decode cL_limits 308 = .ok (.invokestatic 162, 3) := by decide +kernel
theorem dL_limits_311 : decode cL_limits 311 = .ok (.ifCond .eq 157, 3) := by decide +kernel
theorem dL_limits_314 : decode cL_limits 314 = .ok (.aload_n 0, 1) := by decide +kernel
theorem dL_limits_315 : decode cL_limits 315 = .ok (.iconst 2, 1) := by decide +kernel
theorem dL_limits_316 : decode cL_limits 316 = .ok (.ldc2_w 203, 3) := by decide +kernel
theorem dL_limits_319 : decode cL_limits 319 = .ok (.ldc2_w 205, 3) := by decide +kernel
theorem dL_limits_322 : decode cL_limits 322 = .ok (.iconst 5, 1) := by decide +kernel
theorem dL_limits_323 : decode cL_limits 323 = .ok (.invokestatic 156, 3) := by decide +kernel
theorem dL_limits_326 : decode cL_limits 326 = .ok (.ifCond .eq 142, 3) := by decide +kernel
theorem dL_limits_329 : decode cL_limits 329 = .ok (.aload_n 0, 1) := by decide +kernel
theorem dL_limits_330 : decode cL_limits 330 = .ok (.iconst 2, 1) := by decide +kernel
theorem dL_limits_331 : decode cL_limits 331 = .ok (.ldc2_w 207, 3) := by decide +kernel
theorem dL_limits_334 : decode cL_limits 334 = .ok (.ldc2_w 195, 3) := by decide +kernel
theorem dL_limits_337 : decode cL_limits 337 = .ok (.invokestatic 162, 3) := by decide +kernel
theorem dL_limits_340 : decode cL_limits 340 = .ok (.ifCond .eq 128, 3) := by decide +kernel
theorem dL_limits_343 : decode cL_limits 343 = .ok (.aload_n 0, 1) := by decide +kernel
theorem dL_limits_344 : decode cL_limits 344 = .ok (.iconst 2, 1) := by decide +kernel
theorem dL_limits_345 : decode cL_limits 345 = .ok (.ldc2_w 209, 3) := by decide +kernel
theorem dL_limits_348 : decode cL_limits 348 = .ok (.ldc2_w 211, 3) := by decide +kernel
theorem dL_limits_351 : decode cL_limits 351 = .ok (.iconst 4, 1) := by decide +kernel
theorem dL_limits_352 : decode cL_limits 352 = .ok (.invokestatic 156, 3) := by decide +kernel
theorem dL_limits_355 : decode cL_limits 355 = .ok (.ifCond .eq 113, 3) := by decide +kernel
theorem dL_limits_358 : decode cL_limits 358 = .ok (.aload_n 0, 1) := by decide +kernel
theorem dL_limits_359 : decode cL_limits 359 = .ok (.iconst 2, 1) := by decide +kernel
theorem dL_limits_360 : decode cL_limits 360 = .ok (.ldc2_w 213, 3) := by decide +kernel
theorem dL_limits_363 : decode cL_limits 363 = .ok (.lconst 0, 1) := by decide +kernel
theorem dL_limits_364 : decode cL_limits 364 = .ok (.invokestatic 162, 3) := by decide +kernel
