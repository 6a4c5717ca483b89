theorem d_L_572 : decode code 572 = .ok (.aload_n 2, 1) := by decide +kernel
theorem d_L_573 : decode code 573 = .ok (.aload_n 0, 1) := by decide +kernel
theorem d_L_574 : decode code 574 = .ok (.iload 4, 2) := by decide +kernel
theorem d_L_576 : decode code 576 = .ok (.iconst 1, 1) := by decide +kernel
theorem d_L_577 : decode code 577 = .ok (.iadd, 1) := by decide +kernel
theorem d_L_578 : decode code 578 = .ok (.iaload, 1) := by decide +kernel
theorem d_L_579 : decode code 579 = .ok (.aload_n 0, 1) := by decide +kernel
theorem d_L_580 : decode code 580 = .ok (.iload 4, 2) := by decide +kernel
theorem d_L_582 : decode code 582 = .ok (.iconst 2, 1) := by decide +kernel
theorem d_L_583 : decode code 583 = .ok (.iadd, 1) := by decide +kernel
theorem d_L_584 : decode code 584 = .ok (.iaload, 1) := by decide +kernel
theorem d_L_585 : decode code 585 = .ok (.invokevirtual 104, 3) := by decide +kernel
theorem d_L_588 : decode code 588 = .ok (.istore 6, 2) := by decide +kernel
theorem d_L_590 : decode code 590 = .ok (.aload_n 2, 1) := by decide +kernel
theorem d_L_591 : decode code 591 = .ok (.invokevirtual 73, 3) := by decide +kernel
theorem d_L_594 : decode code 594 = .ok (.iload 5, 2) := by decide +kernel
theorem d_L_596 : decode code 596 = .ok (.if_icmp .eq 5, 3) := by decide +kernel
theorem d_L_599 : decode code 599 = .ok (.iconst 0, 1) := by decide +kernel
theorem d_L_600 : decode code 600 = .ok (.ireturn, 1) := by decide +kernel
theorem d_L_601 : decode code 601 = .ok (.iload 5, 2) := by decide +kernel
theorem d_L_603 : decode code 603 = .ok (.ifCond .ne 22, 3) := by decide +kernel
theorem d_L_606 : decode code 606 = .ok (.aload_n 3, 1) := by decide +kernel
theorem d_L_607 : decode code 607 = .ok (.iconst 0, 1) := by decide +kernel
theorem d_L_608 : decode code 608 = .ok (.laload, 1) := by decide +kernel
theorem d_L_609 : decode code 609 = .ok (.iload 6, 2) := by decide +kernel
theorem d_L_611 : decode code 611 = .ok (.ifCond .eq 7, 3) := by decide +kernel
theorem d_L_614 : decode code 614 = .ok (.lconst 1, 1) := by decide +kernel
theorem d_L_615 : decode code 615 = .ok (.goto 4, 3) := by decide +kernel
theorem d_L_618 : decode code 618 = .ok (.lconst 0, 1) := by decide +kernel
theorem d_L_619 : decode code 619 = .ok (.lcmp, 1) := by decide +kernel
theorem d_L_620 : decode code 620 = .ok (.ifCond .eq 5, 3) := by decide +kernel
theorem d_L_623 : decode code 623 = .ok (.iconst 0, 1) := by decide +kernel
theorem d_L_624 : decode code 624 = .ok (.ireturn, 1) := by decide +kernel
theorem d_L_625 : decode code 625 = .ok (.goto 465, 3) := by decide +kernel
theorem d_L_628 : decode code 628 = .ok (.aload_n 1, 1) := by decide +kernel
theorem d_L_629 : decode code 629 = .ok (.aload_n 0, 1) := by decide +kernel
theorem d_L_630 : decode code 630 = .ok (.iload 4, 2) := by decide +kernel
theorem d_L_632 : decode code 632 = .ok (.iconst 1, 1) := by decide +kernel
theorem d_L_633 : decode code 633 = .ok (.iadd, 1) := by decide +kernel
theorem d_L_634 : decode code 634 = .ok (.iaload, 1) := by decide +kernel
theorem d_L_635 : decode code 635 = .ok (.aload_n 3, 1) := by decide +kernel
theorem d_L_636 : decode code 636 = .ok (.invokestatic 105, 3) := by decide +kernel
theorem d_L_639 : decode code 639 = .ok (.istore 5, 2) := by decide +kernel
theorem d_L_641 : decode code 641 = .ok (.aload_n 2, 1) := by decide +kernel
theorem d_L_642 : decode code 642 = .ok (.aload_n 0, 1) := by decide +kernel
theorem d_L_643 : decode code 643 = .ok (.iload 4, 2) := by decide +kernel
theorem d_L_645 : decode code 645 = .ok (.iconst 1, 1) := by decide +kernel
theorem d_L_646 : decode code 646 = .ok (.iadd, 1) := by decide +kernel
theorem d_L_647 : decode code 647 = .ok (.iaload, 1) := by decide +kernel
theorem d_L_648 : decode code 648 = .ok (.invokevirtual 108, 3) := by decide +kernel
theorem d_L_651 : decode code 651 = .ok (.istore 6, 2) := by decide +kernel
theorem d_L_653 : decode code 653 = .ok (.aload_n 2, 1) := by decide +kernel
theorem d_L_654 : decode code 654 = .ok (.invokevirtual 73, 3) := by decide +kernel
theorem d_L_657 : decode code 657 = .ok (.iload 5, 2) := by decide +kernel
theorem d_L_659 : decode code 659 = .ok (.if_icmp .eq 5, 3) := by decide +kernel
theorem d_L_662 : decode code 662 = .ok (.iconst 0, 1) := by decide +kernel
theorem d_L_663 : decode code 663 = .ok (.ireturn, 1) := by decide +kernel
theorem d_L_664 : decode code 664 = .ok (.iload 5, 2) := by decide +kernel
theorem d_L_666 : decode code 666 = .ok (.ifCond .ne 22, 3) := by decide +kernel
theorem d_L_669 : decode code 669 = .ok (.aload_n 3, 1) := by decide +kernel
theorem d_L_670 : decode code 670 = .ok (.iconst 0, 1) := by decide +kernel
theorem d_L_671 : decode code 671 = .ok (.laload, 1) := by decide +kernel
theorem d_L_672 : decode code 672 = .ok (.iload 6, 2) := by decide +kernel
theorem d_L_674 : decode code 674 = .ok (.ifCond .eq 7, 3) := by decide +kernel
theorem d_L_677 : decode code 677 = .ok (.lconst 1, 1) := by decide +kernel
theorem d_L_678 : decode code 678 = .ok (.goto 4, 3) := by decide +kernel
theorem d_L_681 : decode code 681 = .ok (.lconst 0, 1) := by decide +kernel
theorem d_L_682 : decode code 682 = .ok (.lcmp, 1) := by decide +kernel
theorem d_L_683 : decode code 683 = .ok (.ifCond .eq 5, 3) := by decide +kernel
theorem d_L_686 : decode code 686 = .ok (.iconst 0, 1) := by decide +kernel
theorem d_L_687 : decode code 687 = .ok (.ireturn, 1) := by decide +kernel
theorem d_L_688 : decode code 688 = .ok (.goto 402, 3) := by decide +kernel
theorem d_L_691 : decode code 691 = .ok (.aload_n 1, 1) := by decide +kernel
theorem d_L_692 : decode code 692 = .ok (.aload_n 0, 1) := by decide +kernel
theorem d_L_693 : decode code 693 = .ok (.iload 4, 2) := by decide +kernel
theorem d_L_695 : decode code 695 = .ok (.iconst 1, 1) := by decide +kernel
theorem d_L_696 : decode code 696 = .ok (.iadd, 1) := by decide +kernel
theorem d_L_697 : decode code 697 = .ok (.iaload, 1) := by decide +kernel
theorem d_L_698 : decode code 698 = .ok (.aload_n 3, 1) := by decide +kernel
theorem d_L_699 : decode code 699 = .ok (.invokestatic 109, 3) := by decide +kernel
theorem d_L_702 : decode code 702 = .ok (.istore 5, 2) := by decide +kernel
theorem d_L_704 : decode code 704 = .ok (.aload_n 2, 1) := by decide +kernel
theorem d_L_705 : decode code 705 = .ok (.aload_n 0, 1) := by decide +kernel
theorem d_L_706 : decode code 706 = .ok (.iload 4, 2) := by decide +kernel
theorem d_L_708 : decode code 708 = .ok (.iconst 1, 1) := by decide +kernel
theorem d_L_709 : decode code 709 = .ok (.iadd, 1) := by decide +kernel
theorem d_L_710 : decode code 710 = .ok (.iaload, 1) := by decide +kernel
theorem d_L_711 : decode code 711 = .ok (.invokevirtual 111, 3) := by decide +kernel
theorem d_L_714 : decode code 714 = .ok (.istore 6, 2) := by decide +kernel
theorem d_L_716 : decode code 716 = .ok (.aload_n 2, 1) := by decide +kernel
theorem d_L_717 : decode code 717 = .ok (.invokevirtual 73, 3) := by decide +kernel
theorem d_L_720 : decode code 720 = .ok (.iload 5, 2) := by decide +kernel
theorem d_L_722 : decode code 722 = .ok (.if_icmp .eq 5, 3) := by decide +kernel
theorem d_L_725 : decode code 725 = .ok (.iconst 0, 1) := by decide +kernel
theorem d_L_726 : decode code 726 = .ok (.ireturn, 1) := by decide +kernel
theorem d_L_727 : decode code 727 = .ok (.iload 5, 2) := by decide +kernel
theorem d_L_729 : decode code 729 = .ok (.ifCond .ne 22, 3) := by decide +kernel
theorem d_L_732 : decode code 732 = .ok (.aload_n 3, 1) := by decide +kernel
theorem d_L_733 : decode code 733 = .ok (.iconst 0, 1) := by decide +kernel
theorem d_L_734 : decode code 734 = .ok (.laload, 1) := by decide +kernel
theorem d_L_735 : decode code 735 = .ok (.iload 6, 2) := by decide +kernel
theorem d_L_737 : decode code 737 = .ok (.ifCond .eq 7, 3) := by decide +kernel
theorem d_L_740 : decode code 740 = .ok (.lconst 1, 1) := by decide +kernel
theorem d_L_741 : decode code 741 = .ok (.goto 4, 3) := by decide +kernel
theorem d_L_744 : decode code 744 = .ok (.lconst 0, 1) := by decide +kernel
theorem d_L_745 : decode code 745 = .ok (.lcmp, 1) := by decide +kernel
theorem d_L_746 : decode code 746 = .ok (.ifCond .eq 5, 3) := by decide +kernel
theorem d_L_749 : decode code 749 = .ok (.iconst 0, 1) := by decide +kernel
theorem d_L_750 : decode code 750 = .ok (.ireturn, 1) := by decide +kernel
theorem d_L_751 : decode code 751 = .ok (.goto 339, 3) := by decide +kernel
