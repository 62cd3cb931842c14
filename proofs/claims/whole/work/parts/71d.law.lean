theorem dL_law_634 : decode code 634 = .ok (.iadd, 1) := by decide +kernel
theorem dL_law_635 : decode code 635 = .ok (.iaload, 1) := by decide +kernel
theorem dL_law_636 : decode code 636 = .ok (.aload_n 0, 1) := by decide +kernel
theorem dL_law_637 : decode code 637 = .ok (.iload_n 3, 1) := by decide +kernel
theorem dL_law_638 : decode code 638 = .ok (.iconst 2, 1) := by decide +kernel
theorem dL_law_639 : decode code 639 = .ok (.iadd, 1) := by decide +kernel
theorem dL_law_640 : decode code 640 = .ok (.iaload, 1) := by decide +kernel
theorem dL_law_641 : decode code 641 = .ok (.invokevirtual 75, 3) := by decide +kernel
theorem dL_law_644 : decode code 644 = .ok (.lcmp, 1) := by decide +kernel
theorem dL_law_645 : decode code 645 = .ok (.ifCond .eq 251, 3) := by decide +kernel
theorem dL_law_648 : decode code 648 = .ok (.iconst 0, 1) := by decide +kernel
theorem dL_law_649 : decode code 649 = .ok (.ireturn, 1) := by decide +kernel
theorem dL_law_650 : decode code 650 = .ok (.aload_n 1, 1) := by decide +kernel
theorem dL_law_651 : decode code 651 = .ok (.aload_n 0, 1) := by decide +kernel
theorem dL_law_652 : decode code 652 = .ok (.iload_n 3, 1) := by decide +kernel
theorem dL_law_653 : decode code 653 = .ok (.iconst 1, 1) := by decide +kernel
theorem dL_law_654 : decode code 654 = .ok (.iadd, 1) := by decide +kernel
theorem dL_law_655 : decode code 655 = .ok (.iaload, 1) := by decide +kernel
theorem dL_law_656 : decode code 656 = .ok (.aload_n 0, 1) := by decide +kernel
theorem dL_law_657 : decode code 657 = .ok (.iload_n 3, 1) := by decide +kernel
theorem dL_law_658 : decode code 658 = .ok (.iconst 2, 1) := by decide +kernel
theorem dL_law_659 : decode code 659 = .ok (.iadd, 1) := by decide +kernel
theorem dL_law_660 : decode code 660 = .ok (.iaload, 1) := by decide +kernel
theorem dL_law_661 : decode code 661 = .ok (.invokevirtual 76, 3) := by decide +kernel
theorem dL_law_664 : decode code 664 = .ok (.aload_n 2, 1) := by decide +kernel
theorem dL_law_665 : decode code 665 = .ok (.aload_n 0, 1) := by decide +kernel
theorem dL_law_666 : decode code 666 = .ok (.iload_n 3, 1) := by decide +kernel
theorem dL_law_667 : decode code 667 = .ok (.iconst 1, 1) := by decide +kernel
theorem dL_law_668 : decode code 668 = .ok (.iadd, 1) := by decide +kernel
theorem dL_law_669 : decode code 669 = .ok (.iaload, 1) := by decide +kernel
theorem dL_law_670 : decode code 670 = .ok (.aload_n 0, 1) := by decide +kernel
theorem dL_law_671 : decode code 671 = .ok (.iload_n 3, 1) := by decide +kernel
theorem dL_law_672 : decode code 672 = .ok (.iconst 2, 1) := by decide +kernel
theorem dL_law_673 : decode code 673 = .ok (.iadd, 1) := by decide +kernel
theorem dL_law_674 : decode code 674 = .ok (.iaload, 1) := by decide +kernel
theorem dL_law_675 : decode code 675 = .ok (.invokevirtual 79, 3) := by decide +kernel
theorem dL_law_678 : decode code 678 = .ok (.lcmp, 1) := by decide +kernel
theorem dL_law_679 : decode code 679 = .ok (.ifCond .eq 217, 3) := by decide +kernel
theorem dL_law_682 : decode code 682 = .ok (.iconst 0, 1) := by decide +kernel
theorem dL_law_683 : decode code 683 = .ok (.ireturn, 1) := by decide +kernel
theorem dL_law_684 : decode code 684 = .ok (.aload_n 1, 1) := by decide +kernel
theorem dL_law_685 : decode code 685 = .ok (.aload_n 0, 1) := by decide +kernel
theorem dL_law_686 : decode code 686 = .ok (.iload_n 3, 1) := by decide +kernel
theorem dL_law_687 : decode code 687 = .ok (.iconst 1, 1) := by decide +kernel
theorem dL_law_688 : decode code 688 = .ok (.iadd, 1) := by decide +kernel
theorem dL_law_689 : decode code 689 = .ok (.iaload, 1) := by decide +kernel
theorem dL_law_690 : decode code 690 = .ok (.invokevirtual 80, 3) := by decide +kernel
theorem dL_law_693 : decode code 693 = .ok (.aload_n 2, 1) := by decide +kernel
theorem dL_law_694 : decode code 694 = .ok (.aload_n 0, 1) := by decide +kernel
theorem dL_law_695 : decode code 695 = .ok (.iload_n 3, 1) := by decide +kernel
theorem dL_law_696 : decode code 696 = .ok (.iconst 1, 1) := by decide +kernel
theorem dL_law_697 : decode code 697 = .ok (.iadd, 1) := by decide +kernel
theorem dL_law_698 : decode code 698 = .ok (.iaload, 1) := by decide +kernel
theorem dL_law_699 : decode code 699 = .ok (.invokevirtual 83, 3) := by decide +kernel
theorem dL_law_702 : decode code 702 = .ok (.if_icmp .eq 194, 3) := by decide +kernel
theorem dL_law_705 : decode code 705 = .ok (.iconst 0, 1) := by decide +kernel
theorem dL_law_706 : decode code 706 = .ok (.ireturn, 1) := by decide +kernel
theorem dL_law_707 : decode code 707 = .ok (.aload_n 1, 1) := by decide +kernel
theorem dL_law_708 : decode code 708 = .ok (.aload_n 0, 1) := by decide +kernel
theorem dL_law_709 : decode code 709 = .ok (.iload_n 3, 1) := by decide +kernel
theorem dL_law_710 : decode code 710 = .ok (.iconst 1, 1) := by decide +kernel
theorem dL_law_711 : decode code 711 = .ok (.iadd, 1) := by decide +kernel
theorem dL_law_712 : decode code 712 = .ok (.iaload, 1) := by decide +kernel
theorem dL_law_713 : decode code 713 = .ok (.aload_n 0, 1) := by decide +kernel
theorem dL_law_714 : decode code 714 = .ok (.iload_n 3, 1) := by decide +kernel
theorem dL_law_715 : decode code 715 = .ok (.iconst 2, 1) := by decide +kernel
theorem dL_law_716 : decode code 716 = .ok (.iadd, 1) := by decide +kernel
theorem dL_law_717 : decode code 717 = .ok (.iaload, 1) := by decide +kernel
theorem dL_law_718 : decode code 718 = .ok (.invokevirtual 84, 3) := by decide +kernel
theorem dL_law_721 : decode code 721 = .ok (.aload_n 2, 1) := by decide +kernel
theorem dL_law_722 : decode code 722 = .ok (.aload_n 0, 1) := by decide +kernel
theorem dL_law_723 : decode code 723 = .ok (.iload_n 3, 1) := by decide +kernel
theorem dL_law_724 : decode code 724 = .ok (.iconst 1, 1) := by decide +kernel
theorem dL_law_725 : decode code 725 = .ok (.iadd, 1) := by decide +kernel
theorem dL_law_726 : decode code 726 = .ok (.iaload, 1) := by decide +kernel
theorem dL_law_727 : decode code 727 = .ok (.aload_n 0, 1) := by decide +kernel
theorem dL_law_728 : decode code 728 = .ok (.iload_n 3, 1) := by decide +kernel
theorem dL_law_729 : decode code 729 = .ok (.iconst 2, 1) := by decide +kernel
theorem dL_law_730 : decode code 730 = .ok (.iadd, 1) := by decide +kernel
theorem dL_law_731 : decode code 731 = .ok (.iaload, 1) := by decide +kernel
theorem dL_law_732 : decode code 732 = .ok (.invokevirtual 87, 3) := by decide +kernel
theorem dL_law_735 : decode code 735 = .ok (.if_icmp .eq 161, 3) := by decide +kernel
theorem dL_law_738 : decode code 738 = .ok (.iconst 0, 1) := by decide +kernel
theorem dL_law_739 : decode code 739 = .ok (.ireturn, 1) := by decide +kernel
theorem dL_law_740 : decode code 740 = .ok (.aload_n 1, 1) := by decide +kernel
theorem dL_law_741 : decode code 741 = .ok (.aload_n 0, 1) := by decide +kernel
theorem dL_law_742 : decode code 742 = .ok (.iload_n 3, 1) := by decide +kernel
theorem dL_law_743 : decode code 743 = .ok (.iconst 1, 1) := by decide +kernel
theorem dL_law_744 : decode code 744 = .ok (.iadd, 1) := by decide +kernel
theorem dL_law_745 : decode code 745 = .ok (.iaload, 1) := by decide +kernel
theorem dL_law_746 : decode code 746 = .ok (.aload_n 0, 1) := by decide +kernel
theorem dL_law_747 : decode code 747 = .ok (.iload_n 3, 1) := by decide +kernel
theorem dL_law_748 : decode code 748 = .ok (.iconst 2, 1) := by decide +kernel
theorem dL_law_749 : decode code 749 = .ok (.iadd, 1) := by decide +kernel
theorem dL_law_750 : decode code 750 = .ok (.iaload, 1) := by decide +kernel
theorem dL_law_751 : decode code 751 = .ok (.aload_n 0, 1) := by decide +kernel
theorem dL_law_752 : decode code 752 = .ok (.iload_n 3, 1) := by decide +kernel
theorem dL_law_753 : decode code 753 = .ok (.iconst 3, 1) := by decide +kernel
theorem dL_law_754 : decode code 754 = .ok (.iadd, 1) := by decide +kernel
theorem dL_law_755 : decode code 755 = .ok (.iaload, 1) := by decide +kernel
theorem dL_law_756 : decode code 756 = .ok (.aload_n 0, 1) := by decide +kernel
theorem dL_law_757 : decode code 757 = .ok (.iload_n 3, 1) := by decide +kernel
theorem dL_law_758 : decode code 758 = .ok (.iconst 4, 1) := by decide +kernel
theorem dL_law_759 : decode code 759 = .ok (.iadd, 1) := by decide +kernel
theorem dL_law_760 : decode code 760 = .ok (.iaload, 1) := by decide +kernel
theorem dL_law_761 : decode code 761 = .ok (.invokevirtual 88, 3) := by decide +kernel
theorem dL_law_764 : decode code 764 = .ok (.aload_n 2, 1) := by decide +kernel
theorem dL_law_765 : decode code 765 = .ok (.aload_n 0, 1) := by decide +kernel
theorem dL_law_766 : decode code 766 = .ok (.iload_n 3, 1) := by decide +kernel
theorem dL_law_767 : decode code 767 = .ok (.iconst 1, 1) := by decide +kernel
theorem dL_law_768 : decode code 768 = .ok (.iadd, 1) := by decide +kernel
theorem dL_law_769 : decode code 769 = .ok (.iaload, 1) := by decide +kernel
theorem dL_law_770 : decode code 770 = .ok (.aload_n 0, 1) := by decide +kernel
theorem dL_law_771 : decode code 771 = .ok (.iload_n 3, 1) := by decide +kernel
theorem dL_law_772 : decode code 772 = .ok (.iconst 2, 1) := by decide +kernel
theorem dL_law_773 : decode code 773 = .ok (.iadd, 1) := by decide +kernel
theorem dL_law_774 : decode code 774 = .ok (.iaload, 1) := by decide +kernel
theorem dL_law_775 : decode code 775 = .ok (.aload_n 0, 1) := by decide +kernel
theorem dL_law_776 : decode code 776 = .ok (.iload_n 3, 1) := by decide +kernel
theorem dL_law_777 : decode code 777 = .ok (.iconst 3, 1) := by decide +kernel
theorem dL_law_778 : decode code 778 = .ok (.iadd, 1) := by decide +kernel
theorem dL_law_779 : decode code 779 = .ok (.iaload, 1) := by decide +kernel
theorem dL_law_780 : decode code 780 = .ok (.aload_n 0, 1) := by decide +kernel
theorem dL_law_781 : decode code 781 = .ok (.iload_n 3, 1) := by decide +kernel
theorem dL_law_782 : decode code 782 = .ok (.iconst 4, 1) := by decide +kernel
theorem dL_law_783 : decode code 783 = .ok (.iadd, 1) := by decide +kernel
theorem dL_law_784 : decode code 784 = .ok (.iaload, 1) := by decide +kernel
theorem dL_law_785 : decode code 785 = .ok (.invokevirtual 92, 3) := by decide +kernel
theorem dL_law_788 : decode code 788 = .ok (.if_icmp .eq 108, 3) := by decide +kernel
theorem dL_law_791 : decode code 791 = .ok (.iconst 0, 1) := by decide +kernel
theorem dL_law_792 : decode code 792 = .ok (.ireturn, 1) := by decide +kernel
theorem dL_law_793 : decode code 793 = .ok (.aload_n 1, 1) := by decide +kernel
theorem dL_law_794 : decode code 794 = .ok (.aload_n 0, 1) := by decide +kernel
theorem dL_law_795 : decode code 795 = .ok (.iload_n 3, 1) := by decide +kernel
theorem dL_law_796 : decode code 796 = .ok (.iconst 1, 1) := by decide +kernel
theorem dL_law_797 : decode code 797 = .ok (.iadd, 1) := by decide +kernel
theorem dL_law_798 : decode code 798 = .ok (.iaload, 1) := by decide +kernel
theorem dL_law_799 : decode code 799 = .ok (.aload_n 0, 1) := by decide +kernel
theorem dL_law_800 : decode code 800 = .ok (.iload_n 3, 1) := by decide +kernel
theorem dL_law_801 : decode code 801 = .ok (.iconst 2, 1) := by decide +kernel
theorem dL_law_802 : decode code 802 = .ok (.iadd, 1) := by decide +kernel
theorem dL_law_803 : decode code 803 = .ok (.iaload, 1) := by decide +kernel
theorem dL_law_804 : decode code 804 = .ok (.aload_n 0, 1) := by decide +kernel
theorem dL_law_805 : decode code 805 = .ok (.iload_n 3, 1) := by decide +kernel
theorem dL_law_806 : decode code 806 = .ok (.iconst 3, 1) := by decide +kernel
theorem dL_law_807 : decode code 807 = .ok (.iadd, 1) := by decide +kernel
theorem dL_law_808 : decode code 808 = .ok (.iaload, 1) := by decide +kernel
theorem dL_law_809 : decode code 809 = .ok (.invokevirtual 93, 3) := by decide +kernel
theorem dL_law_812 : decode code 812 = .ok (.aload_n 2, 1) := by decide +kernel
theorem dL_law_813 : decode code 813 = .ok (.aload_n 0, 1) := by decide +kernel
theorem dL_law_814 : decode code 814 = .ok (.iload_n 3, 1) := by decide +kernel
theorem dL_law_815 : decode code 815 = .ok (.iconst 1, 1) := by decide +kernel
theorem dL_law_816 : decode code 816 = .ok (.iadd, 1) := by decide +kernel
theorem dL_law_817 : decode code 817 = .ok (.iaload, 1) := by decide +kernel
theorem dL_law_818 : decode code 818 = .ok (.aload_n 0, 1) := by decide +kernel
theorem dL_law_819 : decode code 819 = .ok (.iload_n 3, 1) := by decide +kernel
theorem dL_law_820 : decode code 820 = .ok (.iconst 2, 1) := by decide +kernel
theorem dL_law_821 : decode code 821 = .ok (.iadd, 1) := by decide +kernel
theorem dL_law_822 : decode code 822 = .ok (.iaload, 1) := by decide +kernel
theorem dL_law_823 : decode code 823 = .ok (.aload_n 0, 1) := by decide +kernel
theorem dL_law_824 : decode code 824 = .ok (.iload_n 3, 1) := by decide +kernel
theorem dL_law_825 : decode code 825 = .ok (.iconst 3, 1) := by decide +kernel
theorem dL_law_826 : decode code 826 = .ok (.iadd, 1) := by decide +kernel
theorem dL_law_827 : decode code 827 = .ok (.iaload, 1) := by decide +kernel
theorem dL_law_828 : decode code 828 = .ok (.invokevirtual 96, 3) := by decide +kernel
theorem dL_law_831 : decode code 831 = .ok (.if_icmp .eq 65, 3) := by decide +kernel
theorem dL_law_834 : decode code 834 = .ok (.iconst 0, 1) := by decide +kernel
theorem dL_law_835 : decode code 835 = .ok (.ireturn, 1) := by decide +kernel
theorem dL_law_836 : decode code 836 = .ok (.aload_n 1, 1) := by decide +kernel
theorem dL_law_837 : decode code 837 = .ok (.aload_n 0, 1) := by decide +kernel
theorem dL_law_838 : decode code 838 = .ok (.iload_n 3, 1) := by decide +kernel
theorem dL_law_839 : decode code 839 = .ok (.iconst 1, 1) := by decide +kernel
theorem dL_law_840 : decode code 840 = .ok (.iadd, 1) := by decide +kernel
theorem dL_law_841 : decode code 841 = .ok (.iaload, 1) := by decide +kernel
theorem dL_law_842 : decode code 842 = .ok (.invokevirtual 97, 3) := by decide +kernel
theorem dL_law_845 : decode code 845 = .ok (.aload_n 2, 1) := by decide +kernel
theorem dL_law_846 : decode code 846 = .ok (.aload_n 0, 1) := by decide +kernel
theorem dL_law_847 : decode code 847 = .ok (.iload_n 3, 1) := by decide +kernel
theorem dL_law_848 : decode code 848 = .ok (.iconst 1, 1) := by decide +kernel
theorem dL_law_849 : decode code 849 = .ok (.iadd, 1) := by decide +kernel
theorem dL_law_850 : decode code 850 = .ok (.iaload, 1) := by decide +kernel
theorem dL_law_851 : decode code 851 = .ok (.invokevirtual 100, 3) := by decide +kernel
theorem dL_law_854 : decode code 854 = .ok (.if_icmp .eq 42, 3) := by decide +kernel
theorem dL_law_857 : decode code 857 = .ok (.iconst 0, 1) := by decide +kernel
theorem dL_law_858 : decode code 858 = .ok (.ireturn, 1) := by decide +kernel
theorem dL_law_859 : decode code 859 = .ok (.aload_n 1, 1) := by decide +kernel
theorem dL_law_860 : decode code 860 = .ok (.aload_n 0, 1) := by decide +kernel
theorem dL_law_861 : decode code 861 = .ok (.iload_n 3, 1) := by decide +kernel
theorem dL_law_862 : decode code 862 = .ok (.iconst 1, 1) := by decide +kernel
theorem dL_law_863 : decode code 863 = .ok (.iadd, 1) := by decide +kernel
theorem dL_law_864 : decode code 864 = .ok (.iaload, 1) := by decide +kernel
theorem dL_law_865 : decode code 865 = .ok (.invokevirtual 101, 3) := by decide +kernel
theorem dL_law_868 : decode code 868 = .ok (.aload_n 2, 1) := by decide +kernel
theorem dL_law_869 : decode code 869 = .ok (.aload_n 0, 1) := by decide +kernel
theorem dL_law_870 : decode code 870 = .ok (.iload_n 3, 1) := by decide +kernel
theorem dL_law_871 : decode code 871 = .ok (.iconst 1, 1) := by decide +kernel
theorem dL_law_872 : decode code 872 = .ok (.iadd, 1) := by decide +kernel
theorem dL_law_873 : decode code 873 = .ok (.iaload, 1) := by decide +kernel
theorem dL_law_874 : decode code 874 = .ok (.invokevirtual 104, 3) := by decide +kernel
theorem dL_law_877 : decode code 877 = .ok (.if_icmp .eq 19, 3) := by decide +kernel
theorem dL_law_880 : decode code 880 = .ok (.iconst 0, 1) := by decide +kernel
theorem dL_law_881 : decode code 881 = .ok (.ireturn, 1) := by decide +kernel
theorem dL_law_882 : decode code 882 = .ok (.aload_n 1, 1) := by decide +kernel
theorem dL_law_883 : decode code 883 = .ok (.invokevirtual 105, 3) := by decide +kernel
theorem dL_law_886 : decode code 886 = .ok (.aload_n 2, 1) := by decide +kernel
theorem dL_law_887 : decode code 887 = .ok (.invokevirtual 109, 3) := by decide +kernel
theorem dL_law_890 : decode code 890 = .ok (.lcmp, 1) := by decide +kernel
theorem dL_law_891 : decode code 891 = .ok (.ifCond .eq 5, 3) := by decide +kernel
theorem dL_law_894 : decode code 894 = .ok (.iconst 0, 1) := by decide +kernel
theorem dL_law_895 : decode code 895 = .ok (.ireturn, 1) := by decide +kernel
theorem dL_law_896 : decode code 896 = .ok (.iinc 3 6, 3) := by decide +kernel
theorem dL_law_899 : decode code 899 = .ok (.goto (-881), 3) := by decide +kernel
theorem dL_law_902 : decode code 902 = .ok (.iconst 1, 1) := by decide +kernel
theorem dL_law_903 : decode code 903 = .ok (.ireturn, 1) := by decide +kernel
set_option maxRecDepth 20000 in
theorem oL_law_440 (b L : Nat) (xs : Nat → Int32) : q_LX b L xs pL_law 440 (q_bin (fun x y => x + y)) := q_LX.of (fun _ => q_OK_iadd dL_law_634 rfl)
set_option maxRecDepth 20000 in
theorem oL_law_441 (b L : Nat) (xs : Nat → Int32) : q_LX b L xs pL_law 441 (q_sld b L xs) := q_LX_sld dL_law_635 rfl
set_option maxRecDepth 20000 in
theorem oL_law_442 (b L : Nat) (xs : Nat → Int32) : q_LX b L xs pL_law 442 (q_aloadX 0) := q_LX_aload dL_law_636 rfl rfl
set_option maxRecDepth 20000 in
theorem oL_law_443 (b L : Nat) (xs : Nat → Int32) : q_LX b L xs pL_law 443 (q_iload 3) := q_LX.of (fun _ => q_OK_iload_n dL_law_637 rfl rfl)
set_option maxRecDepth 20000 in
theorem oL_law_444 (b L : Nat) (xs : Nat → Int32) : q_LX b L xs pL_law 444 (q_push (.int 2)) := q_LX.of (fun _ => q_OK_iconst dL_law_638 rfl rfl)
set_option maxRecDepth 20000 in
theorem oL_law_445 (b L : Nat) (xs : Nat → Int32) : q_LX b L xs pL_law 445 (q_bin (fun x y => x + y)) := q_LX.of (fun _ => q_OK_iadd dL_law_639 rfl)
set_option maxRecDepth 20000 in
theorem oL_law_446 (b L : Nat) (xs : Nat → Int32) : q_LX b L xs pL_law 446 (q_sld b L xs) := q_LX_sld dL_law_640 rfl
set_option maxRecDepth 20000 in
theorem oL_law_447 (b L : Nat) (xs : Nat → Int32) : q_LX b L xs pL_law 447 (q_invV [(10, q_call kX11_swing 13)] 2) := q_LX.of (fun _ => q_OK_invV (idx := 75) (q_m1 ⟨_, _, _, _, _, _, _, _, _, rfl, rfl, mX11_swing, Or.inl ⟨dL_law_641, rfl, w_669, w_670, w_671, w_427, ⟨by decide, by decide, by decide +kernel⟩⟩, w_672, by decide, by decide⟩) rfl)
set_option maxRecDepth 20000 in
theorem oL_law_448 (b L : Nat) (xs : Nat → Int32) : q_LX b L xs pL_law 448 (q_lcmp) := q_LX.of (fun _ => q_OK_lcmp dL_law_644 rfl)
set_option maxRecDepth 20000 in
theorem oL_law_449 (b L : Nat) (xs : Nat → Int32) : q_LX b L xs pL_law 449 (q_ifeq 650) := q_LX.of (fun _ => q_OK_ifeq dL_law_645 rfl rfl)
set_option maxRecDepth 20000 in
theorem oL_law_450 (b L : Nat) (xs : Nat → Int32) : q_LX b L xs pL_law 450 (q_push (.int 0)) := q_LX.of (fun _ => q_OK_iconst dL_law_648 rfl rfl)
set_option maxRecDepth 20000 in
theorem oL_law_451 (b L : Nat) (xs : Nat → Int32) : q_LX b L xs pL_law 451 (q_zret) := q_LX.of (fun _ => q_OK_zret dL_law_649 rfl)
set_option maxRecDepth 20000 in
theorem oL_law_452 (b L : Nat) (xs : Nat → Int32) : q_LX b L xs pL_law 452 (q_aload 1) := q_LX.of (fun _ => q_OK_aload_n dL_law_650 rfl rfl)
set_option maxRecDepth 20000 in
theorem oL_law_453 (b L : Nat) (xs : Nat → Int32) : q_LX b L xs pL_law 453 (q_aloadX 0) := q_LX_aload dL_law_651 rfl rfl
set_option maxRecDepth 20000 in
theorem oL_law_454 (b L : Nat) (xs : Nat → Int32) : q_LX b L xs pL_law 454 (q_iload 3) := q_LX.of (fun _ => q_OK_iload_n dL_law_652 rfl rfl)
set_option maxRecDepth 20000 in
theorem oL_law_455 (b L : Nat) (xs : Nat → Int32) : q_LX b L xs pL_law 455 (q_push (.int 1)) := q_LX.of (fun _ => q_OK_iconst dL_law_653 rfl rfl)
set_option maxRecDepth 20000 in
theorem oL_law_456 (b L : Nat) (xs : Nat → Int32) : q_LX b L xs pL_law 456 (q_bin (fun x y => x + y)) := q_LX.of (fun _ => q_OK_iadd dL_law_654 rfl)
set_option maxRecDepth 20000 in
theorem oL_law_457 (b L : Nat) (xs : Nat → Int32) : q_LX b L xs pL_law 457 (q_sld b L xs) := q_LX_sld dL_law_655 rfl
set_option maxRecDepth 20000 in
theorem oL_law_458 (b L : Nat) (xs : Nat → Int32) : q_LX b L xs pL_law 458 (q_aloadX 0) := q_LX_aload dL_law_656 rfl rfl
set_option maxRecDepth 20000 in
theorem oL_law_459 (b L : Nat) (xs : Nat → Int32) : q_LX b L xs pL_law 459 (q_iload 3) := q_LX.of (fun _ => q_OK_iload_n dL_law_657 rfl rfl)
set_option maxRecDepth 20000 in
theorem oL_law_460 (b L : Nat) (xs : Nat → Int32) : q_LX b L xs pL_law 460 (q_push (.int 2)) := q_LX.of (fun _ => q_OK_iconst dL_law_658 rfl rfl)
set_option maxRecDepth 20000 in
theorem oL_law_461 (b L : Nat) (xs : Nat → Int32) : q_LX b L xs pL_law 461 (q_bin (fun x y => x + y)) := q_LX.of (fun _ => q_OK_iadd dL_law_659 rfl)
set_option maxRecDepth 20000 in
theorem oL_law_462 (b L : Nat) (xs : Nat → Int32) : q_LX b L xs pL_law 462 (q_sld b L xs) := q_LX_sld dL_law_660 rfl
set_option maxRecDepth 20000 in
theorem oL_law_463 (b L : Nat) (xs : Nat → Int32) : q_LX b L xs pL_law 463 (q_invV [(9, q_call kX10_area 3)] 2) := q_LX.of (fun _ => q_OK_invV (idx := 76) (q_m1 ⟨_, _, _, _, _, _, _, _, _, rfl, rfl, mX10_area, Or.inl ⟨dL_law_661, rfl, w_673, w_674, w_675, w_134, ⟨by decide, by decide, by decide +kernel⟩⟩, w_676, by decide, by decide⟩) rfl)
set_option maxRecDepth 20000 in
theorem oL_law_464 (b L : Nat) (xs : Nat → Int32) : q_LX b L xs pL_law 464 (q_aload 2) := q_LX.of (fun _ => q_OK_aload_n dL_law_664 rfl rfl)
set_option maxRecDepth 20000 in
theorem oL_law_465 (b L : Nat) (xs : Nat → Int32) : q_LX b L xs pL_law 465 (q_aloadX 0) := q_LX_aload dL_law_665 rfl rfl
set_option maxRecDepth 20000 in
theorem oL_law_466 (b L : Nat) (xs : Nat → Int32) : q_LX b L xs pL_law 466 (q_iload 3) := q_LX.of (fun _ => q_OK_iload_n dL_law_666 rfl rfl)
set_option maxRecDepth 20000 in
theorem oL_law_467 (b L : Nat) (xs : Nat → Int32) : q_LX b L xs pL_law 467 (q_push (.int 1)) := q_LX.of (fun _ => q_OK_iconst dL_law_667 rfl rfl)
set_option maxRecDepth 20000 in
theorem oL_law_468 (b L : Nat) (xs : Nat → Int32) : q_LX b L xs pL_law 468 (q_bin (fun x y => x + y)) := q_LX.of (fun _ => q_OK_iadd dL_law_668 rfl)
set_option maxRecDepth 20000 in
theorem oL_law_469 (b L : Nat) (xs : Nat → Int32) : q_LX b L xs pL_law 469 (q_sld b L xs) := q_LX_sld dL_law_669 rfl
set_option maxRecDepth 20000 in
theorem oL_law_470 (b L : Nat) (xs : Nat → Int32) : q_LX b L xs pL_law 470 (q_aloadX 0) := q_LX_aload dL_law_670 rfl rfl
set_option maxRecDepth 20000 in
theorem oL_law_471 (b L : Nat) (xs : Nat → Int32) : q_LX b L xs pL_law 471 (q_iload 3) := q_LX.of (fun _ => q_OK_iload_n dL_law_671 rfl rfl)
set_option maxRecDepth 20000 in
theorem oL_law_472 (b L : Nat) (xs : Nat → Int32) : q_LX b L xs pL_law 472 (q_push (.int 2)) := q_LX.of (fun _ => q_OK_iconst dL_law_672 rfl rfl)
set_option maxRecDepth 20000 in
theorem oL_law_473 (b L : Nat) (xs : Nat → Int32) : q_LX b L xs pL_law 473 (q_bin (fun x y => x + y)) := q_LX.of (fun _ => q_OK_iadd dL_law_673 rfl)
set_option maxRecDepth 20000 in
theorem oL_law_474 (b L : Nat) (xs : Nat → Int32) : q_LX b L xs pL_law 474 (q_sld b L xs) := q_LX_sld dL_law_674 rfl
set_option maxRecDepth 20000 in
theorem oL_law_475 (b L : Nat) (xs : Nat → Int32) : q_LX b L xs pL_law 475 (q_invV [(10, q_call kX11_area 6)] 2) := q_LX.of (fun _ => q_OK_invV (idx := 79) (q_m1 ⟨_, _, _, _, _, _, _, _, _, rfl, rfl, mX11_area, Or.inl ⟨dL_law_675, rfl, w_677, w_678, w_679, w_427, ⟨by decide, by decide, by decide +kernel⟩⟩, w_680, by decide, by decide⟩) rfl)
set_option maxRecDepth 20000 in
theorem oL_law_476 (b L : Nat) (xs : Nat → Int32) : q_LX b L xs pL_law 476 (q_lcmp) := q_LX.of (fun _ => q_OK_lcmp dL_law_678 rfl)
set_option maxRecDepth 20000 in
theorem oL_law_477 (b L : Nat) (xs : Nat → Int32) : q_LX b L xs pL_law 477 (q_ifeq 650) := q_LX.of (fun _ => q_OK_ifeq dL_law_679 rfl rfl)
set_option maxRecDepth 20000 in
theorem oL_law_478 (b L : Nat) (xs : Nat → Int32) : q_LX b L xs pL_law 478 (q_push (.int 0)) := q_LX.of (fun _ => q_OK_iconst dL_law_682 rfl rfl)
set_option maxRecDepth 20000 in
theorem oL_law_479 (b L : Nat) (xs : Nat → Int32) : q_LX b L xs pL_law 479 (q_zret) := q_LX.of (fun _ => q_OK_zret dL_law_683 rfl)
set_option maxRecDepth 20000 in
theorem oL_law_480 (b L : Nat) (xs : Nat → Int32) : q_LX b L xs pL_law 480 (q_aload 1) := q_LX.of (fun _ => q_OK_aload_n dL_law_684 rfl rfl)
set_option maxRecDepth 20000 in
theorem oL_law_481 (b L : Nat) (xs : Nat → Int32) : q_LX b L xs pL_law 481 (q_aloadX 0) := q_LX_aload dL_law_685 rfl rfl
set_option maxRecDepth 20000 in
theorem oL_law_482 (b L : Nat) (xs : Nat → Int32) : q_LX b L xs pL_law 482 (q_iload 3) := q_LX.of (fun _ => q_OK_iload_n dL_law_686 rfl rfl)
set_option maxRecDepth 20000 in
theorem oL_law_483 (b L : Nat) (xs : Nat → Int32) : q_LX b L xs pL_law 483 (q_push (.int 1)) := q_LX.of (fun _ => q_OK_iconst dL_law_687 rfl rfl)
set_option maxRecDepth 20000 in
theorem oL_law_484 (b L : Nat) (xs : Nat → Int32) : q_LX b L xs pL_law 484 (q_bin (fun x y => x + y)) := q_LX.of (fun _ => q_OK_iadd dL_law_688 rfl)
set_option maxRecDepth 20000 in
theorem oL_law_485 (b L : Nat) (xs : Nat → Int32) : q_LX b L xs pL_law 485 (q_sld b L xs) := q_LX_sld dL_law_689 rfl
set_option maxRecDepth 20000 in
theorem oL_law_486 (b L : Nat) (xs : Nat → Int32) : q_LX b L xs pL_law 486 (q_invV [(9, q_call kX10_keep 2)] 1) := q_LX.of (fun _ => q_OK_invV (idx := 80) (q_m1 ⟨_, _, _, _, _, _, _, _, _, rfl, rfl, mX10_keep, Or.inl ⟨dL_law_690, rfl, w_681, w_682, w_683, w_134, ⟨by decide, by decide, by decide +kernel⟩⟩, w_684, by decide, by decide⟩) rfl)
set_option maxRecDepth 20000 in
theorem oL_law_487 (b L : Nat) (xs : Nat → Int32) : q_LX b L xs pL_law 487 (q_aload 2) := q_LX.of (fun _ => q_OK_aload_n dL_law_693 rfl rfl)
set_option maxRecDepth 20000 in
theorem oL_law_488 (b L : Nat) (xs : Nat → Int32) : q_LX b L xs pL_law 488 (q_aloadX 0) := q_LX_aload dL_law_694 rfl rfl
set_option maxRecDepth 20000 in
theorem oL_law_489 (b L : Nat) (xs : Nat → Int32) : q_LX b L xs pL_law 489 (q_iload 3) := q_LX.of (fun _ => q_OK_iload_n dL_law_695 rfl rfl)
set_option maxRecDepth 20000 in
theorem oL_law_490 (b L : Nat) (xs : Nat → Int32) : q_LX b L xs pL_law 490 (q_push (.int 1)) := q_LX.of (fun _ => q_OK_iconst dL_law_696 rfl rfl)
set_option maxRecDepth 20000 in
theorem oL_law_491 (b L : Nat) (xs : Nat → Int32) : q_LX b L xs pL_law 491 (q_bin (fun x y => x + y)) := q_LX.of (fun _ => q_OK_iadd dL_law_697 rfl)
set_option maxRecDepth 20000 in
theorem oL_law_492 (b L : Nat) (xs : Nat → Int32) : q_LX b L xs pL_law 492 (q_sld b L xs) := q_LX_sld dL_law_698 rfl
set_option maxRecDepth 20000 in
theorem oL_law_493 (b L : Nat) (xs : Nat → Int32) : q_LX b L xs pL_law 493 (q_invV [(10, q_call kX11_keep 3)] 1) := q_LX.of (fun _ => q_OK_invV (idx := 83) (q_m1 ⟨_, _, _, _, _, _, _, _, _, rfl, rfl, mX11_keep, Or.inl ⟨dL_law_699, rfl, w_685, w_686, w_687, w_427, ⟨by decide, by decide, by decide +kernel⟩⟩, w_688, by decide, by decide⟩) rfl)
set_option maxRecDepth 20000 in
theorem oL_law_494 (b L : Nat) (xs : Nat → Int32) : q_LX b L xs pL_law 494 (q_cmpeq 650) := q_LX.of (fun _ => q_OK_cmpeq dL_law_702 rfl rfl)
set_option maxRecDepth 20000 in
theorem oL_law_495 (b L : Nat) (xs : Nat → Int32) : q_LX b L xs pL_law 495 (q_push (.int 0)) := q_LX.of (fun _ => q_OK_iconst dL_law_705 rfl rfl)
set_option maxRecDepth 20000 in
theorem oL_law_496 (b L : Nat) (xs : Nat → Int32) : q_LX b L xs pL_law 496 (q_zret) := q_LX.of (fun _ => q_OK_zret dL_law_706 rfl)
set_option maxRecDepth 20000 in
theorem oL_law_497 (b L : Nat) (xs : Nat → Int32) : q_LX b L xs pL_law 497 (q_aload 1) := q_LX.of (fun _ => q_OK_aload_n dL_law_707 rfl rfl)
set_option maxRecDepth 20000 in
theorem oL_law_498 (b L : Nat) (xs : Nat → Int32) : q_LX b L xs pL_law 498 (q_aloadX 0) := q_LX_aload dL_law_708 rfl rfl
set_option maxRecDepth 20000 in
theorem oL_law_499 (b L : Nat) (xs : Nat → Int32) : q_LX b L xs pL_law 499 (q_iload 3) := q_LX.of (fun _ => q_OK_iload_n dL_law_709 rfl rfl)
set_option maxRecDepth 20000 in
theorem oL_law_500 (b L : Nat) (xs : Nat → Int32) : q_LX b L xs pL_law 500 (q_push (.int 1)) := q_LX.of (fun _ => q_OK_iconst dL_law_710 rfl rfl)
set_option maxRecDepth 20000 in
theorem oL_law_501 (b L : Nat) (xs : Nat → Int32) : q_LX b L xs pL_law 501 (q_bin (fun x y => x + y)) := q_LX.of (fun _ => q_OK_iadd dL_law_711 rfl)
set_option maxRecDepth 20000 in
theorem oL_law_502 (b L : Nat) (xs : Nat → Int32) : q_LX b L xs pL_law 502 (q_sld b L xs) := q_LX_sld dL_law_712 rfl
set_option maxRecDepth 20000 in
theorem oL_law_503 (b L : Nat) (xs : Nat → Int32) : q_LX b L xs pL_law 503 (q_aloadX 0) := q_LX_aload dL_law_713 rfl rfl
set_option maxRecDepth 20000 in
theorem oL_law_504 (b L : Nat) (xs : Nat → Int32) : q_LX b L xs pL_law 504 (q_iload 3) := q_LX.of (fun _ => q_OK_iload_n dL_law_714 rfl rfl)
set_option maxRecDepth 20000 in
theorem oL_law_505 (b L : Nat) (xs : Nat → Int32) : q_LX b L xs pL_law 505 (q_push (.int 2)) := q_LX.of (fun _ => q_OK_iconst dL_law_715 rfl rfl)
set_option maxRecDepth 20000 in
theorem oL_law_506 (b L : Nat) (xs : Nat → Int32) : q_LX b L xs pL_law 506 (q_bin (fun x y => x + y)) := q_LX.of (fun _ => q_OK_iadd dL_law_716 rfl)
set_option maxRecDepth 20000 in
theorem oL_law_507 (b L : Nat) (xs : Nat → Int32) : q_LX b L xs pL_law 507 (q_sld b L xs) := q_LX_sld dL_law_717 rfl
set_option maxRecDepth 20000 in
theorem oL_law_508 (b L : Nat) (xs : Nat → Int32) : q_LX b L xs pL_law 508 (q_invV [(9, q_call kX10_curve 4)] 2) := q_LX.of (fun _ => q_OK_invV (idx := 84) (q_m1 ⟨_, _, _, _, _, _, _, _, _, rfl, rfl, mX10_curve, Or.inl ⟨dL_law_718, rfl, w_689, w_690, w_691, w_134, ⟨by decide, by decide, by decide +kernel⟩⟩, w_692, by decide, by decide⟩) rfl)
set_option maxRecDepth 20000 in
theorem oL_law_509 (b L : Nat) (xs : Nat → Int32) : q_LX b L xs pL_law 509 (q_aload 2) := q_LX.of (fun _ => q_OK_aload_n dL_law_721 rfl rfl)
set_option maxRecDepth 20000 in
theorem oL_law_510 (b L : Nat) (xs : Nat → Int32) : q_LX b L xs pL_law 510 (q_aloadX 0) := q_LX_aload dL_law_722 rfl rfl
set_option maxRecDepth 20000 in
theorem oL_law_511 (b L : Nat) (xs : Nat → Int32) : q_LX b L xs pL_law 511 (q_iload 3) := q_LX.of (fun _ => q_OK_iload_n dL_law_723 rfl rfl)
set_option maxRecDepth 20000 in
theorem oL_law_512 (b L : Nat) (xs : Nat → Int32) : q_LX b L xs pL_law 512 (q_push (.int 1)) := q_LX.of (fun _ => q_OK_iconst dL_law_724 rfl rfl)
set_option maxRecDepth 20000 in
theorem oL_law_513 (b L : Nat) (xs : Nat → Int32) : q_LX b L xs pL_law 513 (q_bin (fun x y => x + y)) := q_LX.of (fun _ => q_OK_iadd dL_law_725 rfl)
set_option maxRecDepth 20000 in
theorem oL_law_514 (b L : Nat) (xs : Nat → Int32) : q_LX b L xs pL_law 514 (q_sld b L xs) := q_LX_sld dL_law_726 rfl
set_option maxRecDepth 20000 in
theorem oL_law_515 (b L : Nat) (xs : Nat → Int32) : q_LX b L xs pL_law 515 (q_aloadX 0) := q_LX_aload dL_law_727 rfl rfl
set_option maxRecDepth 20000 in
theorem oL_law_516 (b L : Nat) (xs : Nat → Int32) : q_LX b L xs pL_law 516 (q_iload 3) := q_LX.of (fun _ => q_OK_iload_n dL_law_728 rfl rfl)
set_option maxRecDepth 20000 in
theorem oL_law_517 (b L : Nat) (xs : Nat → Int32) : q_LX b L xs pL_law 517 (q_push (.int 2)) := q_LX.of (fun _ => q_OK_iconst dL_law_729 rfl rfl)
set_option maxRecDepth 20000 in
theorem oL_law_518 (b L : Nat) (xs : Nat → Int32) : q_LX b L xs pL_law 518 (q_bin (fun x y => x + y)) := q_LX.of (fun _ => q_OK_iadd dL_law_730 rfl)
set_option maxRecDepth 20000 in
theorem oL_law_519 (b L : Nat) (xs : Nat → Int32) : q_LX b L xs pL_law 519 (q_sld b L xs) := q_LX_sld dL_law_731 rfl
set_option maxRecDepth 20000 in
theorem oL_law_520 (b L : Nat) (xs : Nat → Int32) : q_LX b L xs pL_law 520 (q_invV [(10, q_call kX11_curve 3)] 2) := q_LX.of (fun _ => q_OK_invV (idx := 87) (q_m1 ⟨_, _, _, _, _, _, _, _, _, rfl, rfl, mX11_curve, Or.inl ⟨dL_law_732, rfl, w_693, w_694, w_695, w_427, ⟨by decide, by decide, by decide +kernel⟩⟩, w_696, by decide, by decide⟩) rfl)
set_option maxRecDepth 20000 in
theorem oL_law_521 (b L : Nat) (xs : Nat → Int32) : q_LX b L xs pL_law 521 (q_cmpeq 650) := q_LX.of (fun _ => q_OK_cmpeq dL_law_735 rfl rfl)
set_option maxRecDepth 20000 in
theorem oL_law_522 (b L : Nat) (xs : Nat → Int32) : q_LX b L xs pL_law 522 (q_push (.int 0)) := q_LX.of (fun _ => q_OK_iconst dL_law_738 rfl rfl)
set_option maxRecDepth 20000 in
theorem oL_law_523 (b L : Nat) (xs : Nat → Int32) : q_LX b L xs pL_law 523 (q_zret) := q_LX.of (fun _ => q_OK_zret dL_law_739 rfl)
set_option maxRecDepth 20000 in
theorem oL_law_524 (b L : Nat) (xs : Nat → Int32) : q_LX b L xs pL_law 524 (q_aload 1) := q_LX.of (fun _ => q_OK_aload_n dL_law_740 rfl rfl)
set_option maxRecDepth 20000 in
theorem oL_law_525 (b L : Nat) (xs : Nat → Int32) : q_LX b L xs pL_law 525 (q_aloadX 0) := q_LX_aload dL_law_741 rfl rfl
set_option maxRecDepth 20000 in
theorem oL_law_526 (b L : Nat) (xs : Nat → Int32) : q_LX b L xs pL_law 526 (q_iload 3) := q_LX.of (fun _ => q_OK_iload_n dL_law_742 rfl rfl)
set_option maxRecDepth 20000 in
theorem oL_law_527 (b L : Nat) (xs : Nat → Int32) : q_LX b L xs pL_law 527 (q_push (.int 1)) := q_LX.of (fun _ => q_OK_iconst dL_law_743 rfl rfl)
set_option maxRecDepth 20000 in
theorem oL_law_528 (b L : Nat) (xs : Nat → Int32) : q_LX b L xs pL_law 528 (q_bin (fun x y => x + y)) := q_LX.of (fun _ => q_OK_iadd dL_law_744 rfl)
set_option maxRecDepth 20000 in
theorem oL_law_529 (b L : Nat) (xs : Nat → Int32) : q_LX b L xs pL_law 529 (q_sld b L xs) := q_LX_sld dL_law_745 rfl
set_option maxRecDepth 20000 in
theorem oL_law_530 (b L : Nat) (xs : Nat → Int32) : q_LX b L xs pL_law 530 (q_aloadX 0) := q_LX_aload dL_law_746 rfl rfl
set_option maxRecDepth 20000 in
theorem oL_law_531 (b L : Nat) (xs : Nat → Int32) : q_LX b L xs pL_law 531 (q_iload 3) := q_LX.of (fun _ => q_OK_iload_n dL_law_747 rfl rfl)
set_option maxRecDepth 20000 in
theorem oL_law_532 (b L : Nat) (xs : Nat → Int32) : q_LX b L xs pL_law 532 (q_push (.int 2)) := q_LX.of (fun _ => q_OK_iconst dL_law_748 rfl rfl)
set_option maxRecDepth 20000 in
theorem oL_law_533 (b L : Nat) (xs : Nat → Int32) : q_LX b L xs pL_law 533 (q_bin (fun x y => x + y)) := q_LX.of (fun _ => q_OK_iadd dL_law_749 rfl)
set_option maxRecDepth 20000 in
theorem oL_law_534 (b L : Nat) (xs : Nat → Int32) : q_LX b L xs pL_law 534 (q_sld b L xs) := q_LX_sld dL_law_750 rfl
set_option maxRecDepth 20000 in
theorem oL_law_535 (b L : Nat) (xs : Nat → Int32) : q_LX b L xs pL_law 535 (q_aloadX 0) := q_LX_aload dL_law_751 rfl rfl
set_option maxRecDepth 20000 in
theorem oL_law_536 (b L : Nat) (xs : Nat → Int32) : q_LX b L xs pL_law 536 (q_iload 3) := q_LX.of (fun _ => q_OK_iload_n dL_law_752 rfl rfl)
set_option maxRecDepth 20000 in
theorem oL_law_537 (b L : Nat) (xs : Nat → Int32) : q_LX b L xs pL_law 537 (q_push (.int 3)) := q_LX.of (fun _ => q_OK_iconst dL_law_753 rfl rfl)
set_option maxRecDepth 20000 in
theorem oL_law_538 (b L : Nat) (xs : Nat → Int32) : q_LX b L xs pL_law 538 (q_bin (fun x y => x + y)) := q_LX.of (fun _ => q_OK_iadd dL_law_754 rfl)
set_option maxRecDepth 20000 in
theorem oL_law_539 (b L : Nat) (xs : Nat → Int32) : q_LX b L xs pL_law 539 (q_sld b L xs) := q_LX_sld dL_law_755 rfl
set_option maxRecDepth 20000 in
theorem oL_law_540 (b L : Nat) (xs : Nat → Int32) : q_LX b L xs pL_law 540 (q_aloadX 0) := q_LX_aload dL_law_756 rfl rfl
set_option maxRecDepth 20000 in
theorem oL_law_541 (b L : Nat) (xs : Nat → Int32) : q_LX b L xs pL_law 541 (q_iload 3) := q_LX.of (fun _ => q_OK_iload_n dL_law_757 rfl rfl)
set_option maxRecDepth 20000 in
theorem oL_law_542 (b L : Nat) (xs : Nat → Int32) : q_LX b L xs pL_law 542 (q_push (.int 4)) := q_LX.of (fun _ => q_OK_iconst dL_law_758 rfl rfl)
set_option maxRecDepth 20000 in
theorem oL_law_543 (b L : Nat) (xs : Nat → Int32) : q_LX b L xs pL_law 543 (q_bin (fun x y => x + y)) := q_LX.of (fun _ => q_OK_iadd dL_law_759 rfl)
set_option maxRecDepth 20000 in
theorem oL_law_544 (b L : Nat) (xs : Nat → Int32) : q_LX b L xs pL_law 544 (q_sld b L xs) := q_LX_sld dL_law_760 rfl
set_option maxRecDepth 20000 in
theorem oL_law_545 (b L : Nat) (xs : Nat → Int32) : q_LX b L xs pL_law 545 (q_invV [(9, q_call kX10_spread 5)] 4) := q_LX.of (fun _ => q_OK_invV (idx := 88) (q_m1 ⟨_, _, _, _, _, _, _, _, _, rfl, rfl, mX10_spread, Or.inl ⟨dL_law_761, rfl, w_697, w_698, w_699, w_134, ⟨by decide, by decide, by decide +kernel⟩⟩, w_700, by decide, by decide⟩) rfl)
set_option maxRecDepth 20000 in
theorem oL_law_546 (b L : Nat) (xs : Nat → Int32) : q_LX b L xs pL_law 546 (q_aload 2) := q_LX.of (fun _ => q_OK_aload_n dL_law_764 rfl rfl)
set_option maxRecDepth 20000 in
theorem oL_law_547 (b L : Nat) (xs : Nat → Int32) : q_LX b L xs pL_law 547 (q_aloadX 0) := q_LX_aload dL_law_765 rfl rfl
set_option maxRecDepth 20000 in
theorem oL_law_548 (b L : Nat) (xs : Nat → Int32) : q_LX b L xs pL_law 548 (q_iload 3) := q_LX.of (fun _ => q_OK_iload_n dL_law_766 rfl rfl)
set_option maxRecDepth 20000 in
theorem oL_law_549 (b L : Nat) (xs : Nat → Int32) : q_LX b L xs pL_law 549 (q_push (.int 1)) := q_LX.of (fun _ => q_OK_iconst dL_law_767 rfl rfl)
set_option maxRecDepth 20000 in
theorem oL_law_550 (b L : Nat) (xs : Nat → Int32) : q_LX b L xs pL_law 550 (q_bin (fun x y => x + y)) := q_LX.of (fun _ => q_OK_iadd dL_law_768 rfl)
set_option maxRecDepth 20000 in
theorem oL_law_551 (b L : Nat) (xs : Nat → Int32) : q_LX b L xs pL_law 551 (q_sld b L xs) := q_LX_sld dL_law_769 rfl
set_option maxRecDepth 20000 in
theorem oL_law_552 (b L : Nat) (xs : Nat → Int32) : q_LX b L xs pL_law 552 (q_aloadX 0) := q_LX_aload dL_law_770 rfl rfl
set_option maxRecDepth 20000 in
theorem oL_law_553 (b L : Nat) (xs : Nat → Int32) : q_LX b L xs pL_law 553 (q_iload 3) := q_LX.of (fun _ => q_OK_iload_n dL_law_771 rfl rfl)
set_option maxRecDepth 20000 in
theorem oL_law_554 (b L : Nat) (xs : Nat → Int32) : q_LX b L xs pL_law 554 (q_push (.int 2)) := q_LX.of (fun _ => q_OK_iconst dL_law_772 rfl rfl)
set_option maxRecDepth 20000 in
theorem oL_law_555 (b L : Nat) (xs : Nat → Int32) : q_LX b L xs pL_law 555 (q_bin (fun x y => x + y)) := q_LX.of (fun _ => q_OK_iadd dL_law_773 rfl)
set_option maxRecDepth 20000 in
theorem oL_law_556 (b L : Nat) (xs : Nat → Int32) : q_LX b L xs pL_law 556 (q_sld b L xs) := q_LX_sld dL_law_774 rfl
set_option maxRecDepth 20000 in
theorem oL_law_557 (b L : Nat) (xs : Nat → Int32) : q_LX b L xs pL_law 557 (q_aloadX 0) := q_LX_aload dL_law_775 rfl rfl
set_option maxRecDepth 20000 in
theorem oL_law_558 (b L : Nat) (xs : Nat → Int32) : q_LX b L xs pL_law 558 (q_iload 3) := q_LX.of (fun _ => q_OK_iload_n dL_law_776 rfl rfl)
set_option maxRecDepth 20000 in
theorem oL_law_559 (b L : Nat) (xs : Nat → Int32) : q_LX b L xs pL_law 559 (q_push (.int 3)) := q_LX.of (fun _ => q_OK_iconst dL_law_777 rfl rfl)
set_option maxRecDepth 20000 in
theorem oL_law_560 (b L : Nat) (xs : Nat → Int32) : q_LX b L xs pL_law 560 (q_bin (fun x y => x + y)) := q_LX.of (fun _ => q_OK_iadd dL_law_778 rfl)
set_option maxRecDepth 20000 in
theorem oL_law_561 (b L : Nat) (xs : Nat → Int32) : q_LX b L xs pL_law 561 (q_sld b L xs) := q_LX_sld dL_law_779 rfl
set_option maxRecDepth 20000 in
theorem oL_law_562 (b L : Nat) (xs : Nat → Int32) : q_LX b L xs pL_law 562 (q_aloadX 0) := q_LX_aload dL_law_780 rfl rfl
set_option maxRecDepth 20000 in
theorem oL_law_563 (b L : Nat) (xs : Nat → Int32) : q_LX b L xs pL_law 563 (q_iload 3) := q_LX.of (fun _ => q_OK_iload_n dL_law_781 rfl rfl)
set_option maxRecDepth 20000 in
theorem oL_law_564 (b L : Nat) (xs : Nat → Int32) : q_LX b L xs pL_law 564 (q_push (.int 4)) := q_LX.of (fun _ => q_OK_iconst dL_law_782 rfl rfl)
set_option maxRecDepth 20000 in
theorem oL_law_565 (b L : Nat) (xs : Nat → Int32) : q_LX b L xs pL_law 565 (q_bin (fun x y => x + y)) := q_LX.of (fun _ => q_OK_iadd dL_law_783 rfl)
set_option maxRecDepth 20000 in
theorem oL_law_566 (b L : Nat) (xs : Nat → Int32) : q_LX b L xs pL_law 566 (q_sld b L xs) := q_LX_sld dL_law_784 rfl
set_option maxRecDepth 20000 in
theorem oL_law_567 (b L : Nat) (xs : Nat → Int32) : q_LX b L xs pL_law 567 (q_invV [(10, q_call kX11_spread 6)] 4) := q_LX.of (fun _ => q_OK_invV (idx := 92) (q_m1 ⟨_, _, _, _, _, _, _, _, _, rfl, rfl, mX11_spread, Or.inl ⟨dL_law_785, rfl, w_701, w_702, w_703, w_427, ⟨by decide, by decide, by decide +kernel⟩⟩, w_704, by decide, by decide⟩) rfl)
set_option maxRecDepth 20000 in
theorem oL_law_568 (b L : Nat) (xs : Nat → Int32) : q_LX b L xs pL_law 568 (q_cmpeq 650) := q_LX.of (fun _ => q_OK_cmpeq dL_law_788 rfl rfl)
set_option maxRecDepth 20000 in
theorem oL_law_569 (b L : Nat) (xs : Nat → Int32) : q_LX b L xs pL_law 569 (q_push (.int 0)) := q_LX.of (fun _ => q_OK_iconst dL_law_791 rfl rfl)
set_option maxRecDepth 20000 in
theorem oL_law_570 (b L : Nat) (xs : Nat → Int32) : q_LX b L xs pL_law 570 (q_zret) := q_LX.of (fun _ => q_OK_zret dL_law_792 rfl)
set_option maxRecDepth 20000 in
theorem oL_law_571 (b L : Nat) (xs : Nat → Int32) : q_LX b L xs pL_law 571 (q_aload 1) := q_LX.of (fun _ => q_OK_aload_n dL_law_793 rfl rfl)
set_option maxRecDepth 20000 in
theorem oL_law_572 (b L : Nat) (xs : Nat → Int32) : q_LX b L xs pL_law 572 (q_aloadX 0) := q_LX_aload dL_law_794 rfl rfl
set_option maxRecDepth 20000 in
theorem oL_law_573 (b L : Nat) (xs : Nat → Int32) : q_LX b L xs pL_law 573 (q_iload 3) := q_LX.of (fun _ => q_OK_iload_n dL_law_795 rfl rfl)
set_option maxRecDepth 20000 in
theorem oL_law_574 (b L : Nat) (xs : Nat → Int32) : q_LX b L xs pL_law 574 (q_push (.int 1)) := q_LX.of (fun _ => q_OK_iconst dL_law_796 rfl rfl)
set_option maxRecDepth 20000 in
theorem oL_law_575 (b L : Nat) (xs : Nat → Int32) : q_LX b L xs pL_law 575 (q_bin (fun x y => x + y)) := q_LX.of (fun _ => q_OK_iadd dL_law_797 rfl)
set_option maxRecDepth 20000 in
theorem oL_law_576 (b L : Nat) (xs : Nat → Int32) : q_LX b L xs pL_law 576 (q_sld b L xs) := q_LX_sld dL_law_798 rfl
set_option maxRecDepth 20000 in
theorem oL_law_577 (b L : Nat) (xs : Nat → Int32) : q_LX b L xs pL_law 577 (q_aloadX 0) := q_LX_aload dL_law_799 rfl rfl
set_option maxRecDepth 20000 in
theorem oL_law_578 (b L : Nat) (xs : Nat → Int32) : q_LX b L xs pL_law 578 (q_iload 3) := q_LX.of (fun _ => q_OK_iload_n dL_law_800 rfl rfl)
set_option maxRecDepth 20000 in
theorem oL_law_579 (b L : Nat) (xs : Nat → Int32) : q_LX b L xs pL_law 579 (q_push (.int 2)) := q_LX.of (fun _ => q_OK_iconst dL_law_801 rfl rfl)
set_option maxRecDepth 20000 in
theorem oL_law_580 (b L : Nat) (xs : Nat → Int32) : q_LX b L xs pL_law 580 (q_bin (fun x y => x + y)) := q_LX.of (fun _ => q_OK_iadd dL_law_802 rfl)
set_option maxRecDepth 20000 in
theorem oL_law_581 (b L : Nat) (xs : Nat → Int32) : q_LX b L xs pL_law 581 (q_sld b L xs) := q_LX_sld dL_law_803 rfl
set_option maxRecDepth 20000 in
theorem oL_law_582 (b L : Nat) (xs : Nat → Int32) : q_LX b L xs pL_law 582 (q_aloadX 0) := q_LX_aload dL_law_804 rfl rfl
set_option maxRecDepth 20000 in
theorem oL_law_583 (b L : Nat) (xs : Nat → Int32) : q_LX b L xs pL_law 583 (q_iload 3) := q_LX.of (fun _ => q_OK_iload_n dL_law_805 rfl rfl)
set_option maxRecDepth 20000 in
theorem oL_law_584 (b L : Nat) (xs : Nat → Int32) : q_LX b L xs pL_law 584 (q_push (.int 3)) := q_LX.of (fun _ => q_OK_iconst dL_law_806 rfl rfl)
set_option maxRecDepth 20000 in
theorem oL_law_585 (b L : Nat) (xs : Nat → Int32) : q_LX b L xs pL_law 585 (q_bin (fun x y => x + y)) := q_LX.of (fun _ => q_OK_iadd dL_law_807 rfl)
set_option maxRecDepth 20000 in
theorem oL_law_586 (b L : Nat) (xs : Nat → Int32) : q_LX b L xs pL_law 586 (q_sld b L xs) := q_LX_sld dL_law_808 rfl
set_option maxRecDepth 20000 in
theorem oL_law_587 (b L : Nat) (xs : Nat → Int32) : q_LX b L xs pL_law 587 (q_invV [(9, q_call kX10_shift 4)] 3) := q_LX.of (fun _ => q_OK_invV (idx := 93) (q_m1 ⟨_, _, _, _, _, _, _, _, _, rfl, rfl, mX10_shift, Or.inl ⟨dL_law_809, rfl, w_705, w_706, w_707, w_134, ⟨by decide, by decide, by decide +kernel⟩⟩, w_708, by decide, by decide⟩) rfl)
set_option maxRecDepth 20000 in
theorem oL_law_588 (b L : Nat) (xs : Nat → Int32) : q_LX b L xs pL_law 588 (q_aload 2) := q_LX.of (fun _ => q_OK_aload_n dL_law_812 rfl rfl)
set_option maxRecDepth 20000 in
theorem oL_law_589 (b L : Nat) (xs : Nat → Int32) : q_LX b L xs pL_law 589 (q_aloadX 0) := q_LX_aload dL_law_813 rfl rfl
set_option maxRecDepth 20000 in
theorem oL_law_590 (b L : Nat) (xs : Nat → Int32) : q_LX b L xs pL_law 590 (q_iload 3) := q_LX.of (fun _ => q_OK_iload_n dL_law_814 rfl rfl)
set_option maxRecDepth 20000 in
theorem oL_law_591 (b L : Nat) (xs : Nat → Int32) : q_LX b L xs pL_law 591 (q_push (.int 1)) := q_LX.of (fun _ => q_OK_iconst dL_law_815 rfl rfl)
set_option maxRecDepth 20000 in
theorem oL_law_592 (b L : Nat) (xs : Nat → Int32) : q_LX b L xs pL_law 592 (q_bin (fun x y => x + y)) := q_LX.of (fun _ => q_OK_iadd dL_law_816 rfl)
set_option maxRecDepth 20000 in
theorem oL_law_593 (b L : Nat) (xs : Nat → Int32) : q_LX b L xs pL_law 593 (q_sld b L xs) := q_LX_sld dL_law_817 rfl
set_option maxRecDepth 20000 in
theorem oL_law_594 (b L : Nat) (xs : Nat → Int32) : q_LX b L xs pL_law 594 (q_aloadX 0) := q_LX_aload dL_law_818 rfl rfl
set_option maxRecDepth 20000 in
theorem oL_law_595 (b L : Nat) (xs : Nat → Int32) : q_LX b L xs pL_law 595 (q_iload 3) := q_LX.of (fun _ => q_OK_iload_n dL_law_819 rfl rfl)
set_option maxRecDepth 20000 in
theorem oL_law_596 (b L : Nat) (xs : Nat → Int32) : q_LX b L xs pL_law 596 (q_push (.int 2)) := q_LX.of (fun _ => q_OK_iconst dL_law_820 rfl rfl)
set_option maxRecDepth 20000 in
theorem oL_law_597 (b L : Nat) (xs : Nat → Int32) : q_LX b L xs pL_law 597 (q_bin (fun x y => x + y)) := q_LX.of (fun _ => q_OK_iadd dL_law_821 rfl)
set_option maxRecDepth 20000 in
theorem oL_law_598 (b L : Nat) (xs : Nat → Int32) : q_LX b L xs pL_law 598 (q_sld b L xs) := q_LX_sld dL_law_822 rfl
set_option maxRecDepth 20000 in
theorem oL_law_599 (b L : Nat) (xs : Nat → Int32) : q_LX b L xs pL_law 599 (q_aloadX 0) := q_LX_aload dL_law_823 rfl rfl
set_option maxRecDepth 20000 in
theorem oL_law_600 (b L : Nat) (xs : Nat → Int32) : q_LX b L xs pL_law 600 (q_iload 3) := q_LX.of (fun _ => q_OK_iload_n dL_law_824 rfl rfl)
set_option maxRecDepth 20000 in
theorem oL_law_601 (b L : Nat) (xs : Nat → Int32) : q_LX b L xs pL_law 601 (q_push (.int 3)) := q_LX.of (fun _ => q_OK_iconst dL_law_825 rfl rfl)
set_option maxRecDepth 20000 in
theorem oL_law_602 (b L : Nat) (xs : Nat → Int32) : q_LX b L xs pL_law 602 (q_bin (fun x y => x + y)) := q_LX.of (fun _ => q_OK_iadd dL_law_826 rfl)
set_option maxRecDepth 20000 in
theorem oL_law_603 (b L : Nat) (xs : Nat → Int32) : q_LX b L xs pL_law 603 (q_sld b L xs) := q_LX_sld dL_law_827 rfl
set_option maxRecDepth 20000 in
theorem oL_law_604 (b L : Nat) (xs : Nat → Int32) : q_LX b L xs pL_law 604 (q_invV [(10, q_call kX11_shift 11)] 3) := q_LX.of (fun _ => q_OK_invV (idx := 96) (q_m1 ⟨_, _, _, _, _, _, _, _, _, rfl, rfl, mX11_shift, Or.inl ⟨dL_law_828, rfl, w_709, w_710, w_711, w_427, ⟨by decide, by decide, by decide +kernel⟩⟩, w_712, by decide, by decide⟩) rfl)
set_option maxRecDepth 20000 in
theorem oL_law_605 (b L : Nat) (xs : Nat → Int32) : q_LX b L xs pL_law 605 (q_cmpeq 650) := q_LX.of (fun _ => q_OK_cmpeq dL_law_831 rfl rfl)
set_option maxRecDepth 20000 in
theorem oL_law_606 (b L : Nat) (xs : Nat → Int32) : q_LX b L xs pL_law 606 (q_push (.int 0)) := q_LX.of (fun _ => q_OK_iconst dL_law_834 rfl rfl)
set_option maxRecDepth 20000 in
theorem oL_law_607 (b L : Nat) (xs : Nat → Int32) : q_LX b L xs pL_law 607 (q_zret) := q_LX.of (fun _ => q_OK_zret dL_law_835 rfl)
set_option maxRecDepth 20000 in
theorem oL_law_608 (b L : Nat) (xs : Nat → Int32) : q_LX b L xs pL_law 608 (q_aload 1) := q_LX.of (fun _ => q_OK_aload_n dL_law_836 rfl rfl)
set_option maxRecDepth 20000 in
theorem oL_law_609 (b L : Nat) (xs : Nat → Int32) : q_LX b L xs pL_law 609 (q_aloadX 0) := q_LX_aload dL_law_837 rfl rfl
set_option maxRecDepth 20000 in
theorem oL_law_610 (b L : Nat) (xs : Nat → Int32) : q_LX b L xs pL_law 610 (q_iload 3) := q_LX.of (fun _ => q_OK_iload_n dL_law_838 rfl rfl)
set_option maxRecDepth 20000 in
theorem oL_law_611 (b L : Nat) (xs : Nat → Int32) : q_LX b L xs pL_law 611 (q_push (.int 1)) := q_LX.of (fun _ => q_OK_iconst dL_law_839 rfl rfl)
set_option maxRecDepth 20000 in
theorem oL_law_612 (b L : Nat) (xs : Nat → Int32) : q_LX b L xs pL_law 612 (q_bin (fun x y => x + y)) := q_LX.of (fun _ => q_OK_iadd dL_law_840 rfl)
set_option maxRecDepth 20000 in
theorem oL_law_613 (b L : Nat) (xs : Nat → Int32) : q_LX b L xs pL_law 613 (q_sld b L xs) := q_LX_sld dL_law_841 rfl
set_option maxRecDepth 20000 in
theorem oL_law_614 (b L : Nat) (xs : Nat → Int32) : q_LX b L xs pL_law 614 (q_invV [(9, q_call kX10_check 5)] 1) := q_LX.of (fun _ => q_OK_invV (idx := 97) (q_m1 ⟨_, _, _, _, _, _, _, _, _, rfl, rfl, mX10_check, Or.inl ⟨dL_law_842, rfl, w_713, w_714, w_715, w_134, ⟨by decide, by decide, by decide +kernel⟩⟩, w_716, by decide, by decide⟩) rfl)
set_option maxRecDepth 20000 in
theorem oL_law_615 (b L : Nat) (xs : Nat → Int32) : q_LX b L xs pL_law 615 (q_aload 2) := q_LX.of (fun _ => q_OK_aload_n dL_law_845 rfl rfl)
set_option maxRecDepth 20000 in
theorem oL_law_616 (b L : Nat) (xs : Nat → Int32) : q_LX b L xs pL_law 616 (q_aloadX 0) := q_LX_aload dL_law_846 rfl rfl
set_option maxRecDepth 20000 in
theorem oL_law_617 (b L : Nat) (xs : Nat → Int32) : q_LX b L xs pL_law 617 (q_iload 3) := q_LX.of (fun _ => q_OK_iload_n dL_law_847 rfl rfl)
set_option maxRecDepth 20000 in
theorem oL_law_618 (b L : Nat) (xs : Nat → Int32) : q_LX b L xs pL_law 618 (q_push (.int 1)) := q_LX.of (fun _ => q_OK_iconst dL_law_848 rfl rfl)
set_option maxRecDepth 20000 in
theorem oL_law_619 (b L : Nat) (xs : Nat → Int32) : q_LX b L xs pL_law 619 (q_bin (fun x y => x + y)) := q_LX.of (fun _ => q_OK_iadd dL_law_849 rfl)
set_option maxRecDepth 20000 in
theorem oL_law_620 (b L : Nat) (xs : Nat → Int32) : q_LX b L xs pL_law 620 (q_sld b L xs) := q_LX_sld dL_law_850 rfl
set_option maxRecDepth 20000 in
theorem oL_law_621 (b L : Nat) (xs : Nat → Int32) : q_LX b L xs pL_law 621 (q_invV [(10, q_call kX11_check 5)] 1) := q_LX.of (fun _ => q_OK_invV (idx := 100) (q_m1 ⟨_, _, _, _, _, _, _, _, _, rfl, rfl, mX11_check, Or.inl ⟨dL_law_851, rfl, w_717, w_718, w_719, w_427, ⟨by decide, by decide, by decide +kernel⟩⟩, w_720, by decide, by decide⟩) rfl)
set_option maxRecDepth 20000 in
theorem oL_law_622 (b L : Nat) (xs : Nat → Int32) : q_LX b L xs pL_law 622 (q_cmpeq 650) := q_LX.of (fun _ => q_OK_cmpeq dL_law_854 rfl rfl)
set_option maxRecDepth 20000 in
theorem oL_law_623 (b L : Nat) (xs : Nat → Int32) : q_LX b L xs pL_law 623 (q_push (.int 0)) := q_LX.of (fun _ => q_OK_iconst dL_law_857 rfl rfl)
set_option maxRecDepth 20000 in
theorem oL_law_624 (b L : Nat) (xs : Nat → Int32) : q_LX b L xs pL_law 624 (q_zret) := q_LX.of (fun _ => q_OK_zret dL_law_858 rfl)
set_option maxRecDepth 20000 in
theorem oL_law_625 (b L : Nat) (xs : Nat → Int32) : q_LX b L xs pL_law 625 (q_aload 1) := q_LX.of (fun _ => q_OK_aload_n dL_law_859 rfl rfl)
set_option maxRecDepth 20000 in
theorem oL_law_626 (b L : Nat) (xs : Nat → Int32) : q_LX b L xs pL_law 626 (q_aloadX 0) := q_LX_aload dL_law_860 rfl rfl
set_option maxRecDepth 20000 in
theorem oL_law_627 (b L : Nat) (xs : Nat → Int32) : q_LX b L xs pL_law 627 (q_iload 3) := q_LX.of (fun _ => q_OK_iload_n dL_law_861 rfl rfl)
set_option maxRecDepth 20000 in
theorem oL_law_628 (b L : Nat) (xs : Nat → Int32) : q_LX b L xs pL_law 628 (q_push (.int 1)) := q_LX.of (fun _ => q_OK_iconst dL_law_862 rfl rfl)
set_option maxRecDepth 20000 in
theorem oL_law_629 (b L : Nat) (xs : Nat → Int32) : q_LX b L xs pL_law 629 (q_bin (fun x y => x + y)) := q_LX.of (fun _ => q_OK_iadd dL_law_863 rfl)
set_option maxRecDepth 20000 in
theorem oL_law_630 (b L : Nat) (xs : Nat → Int32) : q_LX b L xs pL_law 630 (q_sld b L xs) := q_LX_sld dL_law_864 rfl
set_option maxRecDepth 20000 in
theorem oL_law_631 (b L : Nat) (xs : Nat → Int32) : q_LX b L xs pL_law 631 (q_invV [(9, q_call kX10_count 2)] 1) := q_LX.of (fun _ => q_OK_invV (idx := 101) (q_m1 ⟨_, _, _, _, _, _, _, _, _, rfl, rfl, mX10_count, Or.inl ⟨dL_law_865, rfl, w_721, w_722, w_723, w_134, ⟨by decide, by decide, by decide +kernel⟩⟩, w_724, by decide, by decide⟩) rfl)
set_option maxRecDepth 20000 in
theorem oL_law_632 (b L : Nat) (xs : Nat → Int32) : q_LX b L xs pL_law 632 (q_aload 2) := q_LX.of (fun _ => q_OK_aload_n dL_law_868 rfl rfl)
set_option maxRecDepth 20000 in
theorem oL_law_633 (b L : Nat) (xs : Nat → Int32) : q_LX b L xs pL_law 633 (q_aloadX 0) := q_LX_aload dL_law_869 rfl rfl
set_option maxRecDepth 20000 in
theorem oL_law_634 (b L : Nat) (xs : Nat → Int32) : q_LX b L xs pL_law 634 (q_iload 3) := q_LX.of (fun _ => q_OK_iload_n dL_law_870 rfl rfl)
set_option maxRecDepth 20000 in
theorem oL_law_635 (b L : Nat) (xs : Nat → Int32) : q_LX b L xs pL_law 635 (q_push (.int 1)) := q_LX.of (fun _ => q_OK_iconst dL_law_871 rfl rfl)
set_option maxRecDepth 20000 in
theorem oL_law_636 (b L : Nat) (xs : Nat → Int32) : q_LX b L xs pL_law 636 (q_bin (fun x y => x + y)) := q_LX.of (fun _ => q_OK_iadd dL_law_872 rfl)
set_option maxRecDepth 20000 in
theorem oL_law_637 (b L : Nat) (xs : Nat → Int32) : q_LX b L xs pL_law 637 (q_sld b L xs) := q_LX_sld dL_law_873 rfl
set_option maxRecDepth 20000 in
theorem oL_law_638 (b L : Nat) (xs : Nat → Int32) : q_LX b L xs pL_law 638 (q_invV [(10, q_call kX11_count 4)] 1) := q_LX.of (fun _ => q_OK_invV (idx := 104) (q_m1 ⟨_, _, _, _, _, _, _, _, _, rfl, rfl, mX11_count, Or.inl ⟨dL_law_874, rfl, w_725, w_726, w_727, w_427, ⟨by decide, by decide, by decide +kernel⟩⟩, w_728, by decide, by decide⟩) rfl)
set_option maxRecDepth 20000 in
theorem oL_law_639 (b L : Nat) (xs : Nat → Int32) : q_LX b L xs pL_law 639 (q_cmpeq 650) := q_LX.of (fun _ => q_OK_cmpeq dL_law_877 rfl rfl)
set_option maxRecDepth 20000 in
theorem oL_law_640 (b L : Nat) (xs : Nat → Int32) : q_LX b L xs pL_law 640 (q_push (.int 0)) := q_LX.of (fun _ => q_OK_iconst dL_law_880 rfl rfl)
set_option maxRecDepth 20000 in
theorem oL_law_641 (b L : Nat) (xs : Nat → Int32) : q_LX b L xs pL_law 641 (q_zret) := q_LX.of (fun _ => q_OK_zret dL_law_881 rfl)
set_option maxRecDepth 20000 in
theorem oL_law_642 (b L : Nat) (xs : Nat → Int32) : q_LX b L xs pL_law 642 (q_aload 1) := q_LX.of (fun _ => q_OK_aload_n dL_law_882 rfl rfl)
set_option maxRecDepth 20000 in
theorem oL_law_643 (b L : Nat) (xs : Nat → Int32) : q_LX b L xs pL_law 643 (q_invV [(9, q_call kX10_trace 1)] 0) := q_LX.of (fun _ => q_OK_invV (idx := 105) (q_m1 ⟨_, _, _, _, _, _, _, _, _, rfl, rfl, mX10_trace, Or.inl ⟨dL_law_883, rfl, w_729, w_730, w_731, w_134, ⟨by decide, by decide, by decide +kernel⟩⟩, w_732, by decide, by decide⟩) rfl)
set_option maxRecDepth 20000 in
theorem oL_law_644 (b L : Nat) (xs : Nat → Int32) : q_LX b L xs pL_law 644 (q_aload 2) := q_LX.of (fun _ => q_OK_aload_n dL_law_886 rfl rfl)
set_option maxRecDepth 20000 in
theorem oL_law_645 (b L : Nat) (xs : Nat → Int32) : q_LX b L xs pL_law 645 (q_invV [(10, q_call kX11_trace 1)] 0) := q_LX.of (fun _ => q_OK_invV (idx := 109) (q_m1 ⟨_, _, _, _, _, _, _, _, _, rfl, rfl, mX11_trace, Or.inl ⟨dL_law_887, rfl, w_733, w_734, w_735, w_427, ⟨by decide, by decide, by decide +kernel⟩⟩, w_736, by decide, by decide⟩) rfl)
set_option maxRecDepth 20000 in
theorem oL_law_646 (b L : Nat) (xs : Nat → Int32) : q_LX b L xs pL_law 646 (q_lcmp) := q_LX.of (fun _ => q_OK_lcmp dL_law_890 rfl)
set_option maxRecDepth 20000 in
theorem oL_law_647 (b L : Nat) (xs : Nat → Int32) : q_LX b L xs pL_law 647 (q_ifeq 650) := q_LX.of (fun _ => q_OK_ifeq dL_law_891 rfl rfl)
set_option maxRecDepth 20000 in
theorem oL_law_648 (b L : Nat) (xs : Nat → Int32) : q_LX b L xs pL_law 648 (q_push (.int 0)) := q_LX.of (fun _ => q_OK_iconst dL_law_894 rfl rfl)
set_option maxRecDepth 20000 in
theorem oL_law_649 (b L : Nat) (xs : Nat → Int32) : q_LX b L xs pL_law 649 (q_zret) := q_LX.of (fun _ => q_OK_zret dL_law_895 rfl)
set_option maxRecDepth 20000 in
theorem oL_law_650 (b L : Nat) (xs : Nat → Int32) : q_LX b L xs pL_law 650 (q_iinc 3 6) := q_LX.of (fun _ => q_OK_iinc dL_law_896 rfl (by decide) rfl)
set_option maxRecDepth 20000 in
theorem oL_law_651 (b L : Nat) (xs : Nat → Int32) : q_LX b L xs pL_law 651 (q_goto 10) := q_LX.of (fun _ => q_OK_goto dL_law_899 rfl)
set_option maxRecDepth 20000 in
theorem oL_law_652 (b L : Nat) (xs : Nat → Int32) : q_LX b L xs pL_law 652 (q_push (.int 1)) := q_LX.of (fun _ => q_OK_iconst dL_law_902 rfl rfl)
set_option maxRecDepth 20000 in
theorem oL_law_653 (b L : Nat) (xs : Nat → Int32) : q_LX b L xs pL_law 653 (q_zret) := q_LX.of (fun _ => q_OK_zret dL_law_903 rfl)
