theorem dl_634 : decode code 634 = .ok (.iaload, 1) := by decide +kernel
theorem dl_635 : decode code 635 = .ok (.invokevirtual 88, 3) := by decide +kernel
theorem dl_638 : decode code 638 = .ok (.aload_n 2, 1) := by decide +kernel
theorem dl_639 : decode code 639 = .ok (.aload_n 0, 1) := by decide +kernel
theorem dl_640 : decode code 640 = .ok (.iload_n 3, 1) := by decide +kernel
theorem dl_641 : decode code 641 = .ok (.iconst 1, 1) := by decide +kernel
theorem dl_642 : decode code 642 = .ok (.iadd, 1) := by decide +kernel
theorem dl_643 : decode code 643 = .ok (.iaload, 1) := by decide +kernel
theorem dl_644 : decode code 644 = .ok (.invokevirtual 91, 3) := by decide +kernel
theorem dl_647 : decode code 647 = .ok (.if_icmp .eq 343, 3) := by decide +kernel
theorem dl_650 : decode code 650 = .ok (.iconst 0, 1) := by decide +kernel
theorem dl_651 : decode code 651 = .ok (.ireturn, 1) := by decide +kernel
theorem dl_652 : decode code 652 = .ok (.aload_n 1, 1) := by decide +kernel
theorem dl_653 : decode code 653 = .ok (.aload_n 0, 1) := by decide +kernel
theorem dl_654 : decode code 654 = .ok (.iload_n 3, 1) := by decide +kernel
theorem dl_655 : decode code 655 = .ok (.iconst 1, 1) := by decide +kernel
theorem dl_656 : decode code 656 = .ok (.iadd, 1) := by decide +kernel
theorem dl_657 : decode code 657 = .ok (.iaload, 1) := by decide +kernel
theorem dl_658 : decode code 658 = .ok (.aload_n 0, 1) := by decide +kernel
theorem dl_659 : decode code 659 = .ok (.iload_n 3, 1) := by decide +kernel
theorem dl_660 : decode code 660 = .ok (.iconst 2, 1) := by decide +kernel
theorem dl_661 : decode code 661 = .ok (.iadd, 1) := by decide +kernel
theorem dl_662 : decode code 662 = .ok (.iaload, 1) := by decide +kernel
theorem dl_663 : decode code 663 = .ok (.aload_n 0, 1) := by decide +kernel
theorem dl_664 : decode code 664 = .ok (.iload_n 3, 1) := by decide +kernel
theorem dl_665 : decode code 665 = .ok (.iconst 3, 1) := by decide +kernel
theorem dl_666 : decode code 666 = .ok (.iadd, 1) := by decide +kernel
theorem dl_667 : decode code 667 = .ok (.iaload, 1) := by decide +kernel
theorem dl_668 : decode code 668 = .ok (.invokevirtual 92, 3) := by decide +kernel
theorem dl_671 : decode code 671 = .ok (.aload_n 2, 1) := by decide +kernel
theorem dl_672 : decode code 672 = .ok (.aload_n 0, 1) := by decide +kernel
theorem dl_673 : decode code 673 = .ok (.iload_n 3, 1) := by decide +kernel
theorem dl_674 : decode code 674 = .ok (.iconst 1, 1) := by decide +kernel
theorem dl_675 : decode code 675 = .ok (.iadd, 1) := by decide +kernel
theorem dl_676 : decode code 676 = .ok (.iaload, 1) := by decide +kernel
theorem dl_677 : decode code 677 = .ok (.aload_n 0, 1) := by decide +kernel
theorem dl_678 : decode code 678 = .ok (.iload_n 3, 1) := by decide +kernel
theorem dl_679 : decode code 679 = .ok (.iconst 2, 1) := by decide +kernel
theorem dl_680 : decode code 680 = .ok (.iadd, 1) := by decide +kernel
theorem dl_681 : decode code 681 = .ok (.iaload, 1) := by decide +kernel
theorem dl_682 : decode code 682 = .ok (.aload_n 0, 1) := by decide +kernel
theorem dl_683 : decode code 683 = .ok (.iload_n 3, 1) := by decide +kernel
theorem dl_684 : decode code 684 = .ok (.iconst 3, 1) := by decide +kernel
theorem dl_685 : decode code 685 = .ok (.iadd, 1) := by decide +kernel
theorem dl_686 : decode code 686 = .ok (.iaload, 1) := by decide +kernel
theorem dl_687 : decode code 687 = .ok (.invokevirtual 95, 3) := by decide +kernel
theorem dl_690 : decode code 690 = .ok (.if_icmp .eq 300, 3) := by decide +kernel
theorem dl_693 : decode code 693 = .ok (.iconst 0, 1) := by decide +kernel
theorem dl_694 : decode code 694 = .ok (.ireturn, 1) := by decide +kernel
theorem dl_695 : decode code 695 = .ok (.aload_n 1, 1) := by decide +kernel
theorem dl_696 : decode code 696 = .ok (.aload_n 0, 1) := by decide +kernel
theorem dl_697 : decode code 697 = .ok (.iload_n 3, 1) := by decide +kernel
theorem dl_698 : decode code 698 = .ok (.iconst 1, 1) := by decide +kernel
theorem dl_699 : decode code 699 = .ok (.iadd, 1) := by decide +kernel
theorem dl_700 : decode code 700 = .ok (.iaload, 1) := by decide +kernel
theorem dl_701 : decode code 701 = .ok (.aload_n 0, 1) := by decide +kernel
theorem dl_702 : decode code 702 = .ok (.iload_n 3, 1) := by decide +kernel
theorem dl_703 : decode code 703 = .ok (.iconst 2, 1) := by decide +kernel
theorem dl_704 : decode code 704 = .ok (.iadd, 1) := by decide +kernel
theorem dl_705 : decode code 705 = .ok (.iaload, 1) := by decide +kernel
theorem dl_706 : decode code 706 = .ok (.aload_n 0, 1) := by decide +kernel
theorem dl_707 : decode code 707 = .ok (.iload_n 3, 1) := by decide +kernel
theorem dl_708 : decode code 708 = .ok (.iconst 3, 1) := by decide +kernel
theorem dl_709 : decode code 709 = .ok (.iadd, 1) := by decide +kernel
theorem dl_710 : decode code 710 = .ok (.iaload, 1) := by decide +kernel
theorem dl_711 : decode code 711 = .ok (.invokevirtual 96, 3) := by decide +kernel
theorem dl_714 : decode code 714 = .ok (.aload_n 2, 1) := by decide +kernel
theorem dl_715 : decode code 715 = .ok (.aload_n 0, 1) := by decide +kernel
theorem dl_716 : decode code 716 = .ok (.iload_n 3, 1) := by decide +kernel
theorem dl_717 : decode code 717 = .ok (.iconst 1, 1) := by decide +kernel
theorem dl_718 : decode code 718 = .ok (.iadd, 1) := by decide +kernel
theorem dl_719 : decode code 719 = .ok (.iaload, 1) := by decide +kernel
theorem dl_720 : decode code 720 = .ok (.aload_n 0, 1) := by decide +kernel
theorem dl_721 : decode code 721 = .ok (.iload_n 3, 1) := by decide +kernel
theorem dl_722 : decode code 722 = .ok (.iconst 2, 1) := by decide +kernel
theorem dl_723 : decode code 723 = .ok (.iadd, 1) := by decide +kernel
theorem dl_724 : decode code 724 = .ok (.iaload, 1) := by decide +kernel
theorem dl_725 : decode code 725 = .ok (.aload_n 0, 1) := by decide +kernel
theorem dl_726 : decode code 726 = .ok (.iload_n 3, 1) := by decide +kernel
theorem dl_727 : decode code 727 = .ok (.iconst 3, 1) := by decide +kernel
theorem dl_728 : decode code 728 = .ok (.iadd, 1) := by decide +kernel
theorem dl_729 : decode code 729 = .ok (.iaload, 1) := by decide +kernel
theorem dl_730 : decode code 730 = .ok (.invokevirtual 99, 3) := by decide +kernel
theorem dl_733 : decode code 733 = .ok (.if_icmp .eq 257, 3) := by decide +kernel
theorem dl_736 : decode code 736 = .ok (.iconst 0, 1) := by decide +kernel
theorem dl_737 : decode code 737 = .ok (.ireturn, 1) := by decide +kernel
theorem dl_738 : decode code 738 = .ok (.aload_n 1, 1) := by decide +kernel
theorem dl_739 : decode code 739 = .ok (.invokevirtual 100, 3) := by decide +kernel
theorem dl_742 : decode code 742 = .ok (.aload_n 2, 1) := by decide +kernel
theorem dl_743 : decode code 743 = .ok (.invokevirtual 103, 3) := by decide +kernel
theorem dl_746 : decode code 746 = .ok (.if_icmp .eq 244, 3) := by decide +kernel
theorem dl_749 : decode code 749 = .ok (.iconst 0, 1) := by decide +kernel
theorem dl_750 : decode code 750 = .ok (.ireturn, 1) := by decide +kernel
theorem dl_751 : decode code 751 = .ok (.aload_n 1, 1) := by decide +kernel
theorem dl_752 : decode code 752 = .ok (.aload_n 0, 1) := by decide +kernel
