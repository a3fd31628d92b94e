theorem dL_law_633 : decode code 633 = .ok (.aload_n 1, 1) := by decide +kernel
theorem dL_law_634 : decode code 634 = .ok (.aload_n 0, 1) := by decide +kernel
theorem dL_law_635 : decode code 635 = .ok (.iload_n 3, 1) := by decide +kernel
theorem dL_law_636 : decode code 636 = .ok (.iconst 1, 1) := by decide +kernel
theorem dL_law_637 : decode code 637 = .ok (.iadd, 1) := by decide +kernel
theorem dL_law_638 : decode code 638 = .ok (.iaload, 1) := by decide +kernel
theorem dL_law_639 : decode code 639 = .ok (.invokevirtual 61, 3) := by decide +kernel
theorem dL_law_642 : decode code 642 = .ok (.aload_n 2, 1) := by decide +kernel
theorem dL_law_643 : decode code 643 = .ok (.aload_n 0, 1) := by decide +kernel
theorem dL_law_644 : decode code 644 = .ok (.iload_n 3, 1) := by decide +kernel
theorem dL_law_645 : decode code 645 = .ok (.iconst 1, 1) := by decide +kernel
theorem dL_law_646 : decode code 646 = .ok (.iadd, 1) := by decide +kernel
theorem dL_law_647 : decode code 647 = .ok (.iaload, 1) := by decide +kernel
theorem dL_law_648 : decode code 648 = .ok (.invokevirtual 64, 3) := by decide +kernel
theorem dL_law_651 : decode code 651 = .ok (.if_icmp .eq 1575, 3) := by decide +kernel
theorem dL_law_656 : decode code 656 = .ok (.aload_n 1, 1) := by decide +kernel
theorem dL_law_657 : decode code 657 = .ok (.aload_n 0, 1) := by decide +kernel
theorem dL_law_658 : decode code 658 = .ok (.iload_n 3, 1) := by decide +kernel
theorem dL_law_659 : decode code 659 = .ok (.iconst 1, 1) := by decide +kernel
theorem dL_law_660 : decode code 660 = .ok (.iadd, 1) := by decide +kernel
theorem dL_law_661 : decode code 661 = .ok (.iaload, 1) := by decide +kernel
theorem dL_law_662 : decode code 662 = .ok (.invokevirtual 65, 3) := by decide +kernel
theorem dL_law_665 : decode code 665 = .ok (.aload_n 2, 1) := by decide +kernel
theorem dL_law_666 : decode code 666 = .ok (.aload_n 0, 1) := by decide +kernel
theorem dL_law_667 : decode code 667 = .ok (.iload_n 3, 1) := by decide +kernel
theorem dL_law_668 : decode code 668 = .ok (.iconst 1, 1) := by decide +kernel
theorem dL_law_669 : decode code 669 = .ok (.iadd, 1) := by decide +kernel
theorem dL_law_670 : decode code 670 = .ok (.iaload, 1) := by decide +kernel
theorem dL_law_671 : decode code 671 = .ok (.invokevirtual 68, 3) := by decide +kernel
theorem dL_law_674 : decode code 674 = .ok (.if_icmp .eq 1552, 3) := by decide +kernel
theorem dL_law_679 : decode code 679 = .ok (.aload_n 1, 1) := by decide +kernel
theorem dL_law_680 : decode code 680 = .ok (.aload_n 0, 1) := by decide +kernel
theorem dL_law_681 : decode code 681 = .ok (.iload_n 3, 1) := by decide +kernel
theorem dL_law_682 : decode code 682 = .ok (.iconst 1, 1) := by decide +kernel
theorem dL_law_683 : decode code 683 = .ok (.iadd, 1) := by decide +kernel
theorem dL_law_684 : decode code 684 = .ok (.iaload, 1) := by decide +kernel
theorem dL_law_685 : decode code 685 = .ok (.invokevirtual 69, 3) := by decide +kernel
theorem dL_law_688 : decode code 688 = .ok (.aload_n 2, 1) := by decide +kernel
theorem dL_law_689 : decode code 689 = .ok (.aload_n 0, 1) := by decide +kernel
theorem dL_law_690 : decode code 690 = .ok (.iload_n 3, 1) := by decide +kernel
theorem dL_law_691 : decode code 691 = .ok (.iconst 1, 1) := by decide +kernel
theorem dL_law_692 : decode code 692 = .ok (.iadd, 1) := by decide +kernel
theorem dL_law_693 : decode code 693 = .ok (.iaload, 1) := by decide +kernel
theorem dL_law_694 : decode code 694 = .ok (.invokevirtual 72, 3) := by decide +kernel
theorem dL_law_697 : decode code 697 = .ok (.if_icmp .eq 1529, 3) := by decide +kernel
theorem dL_law_702 : decode code 702 = .ok (.aload_n 1, 1) := by decide +kernel
theorem dL_law_703 : decode code 703 = .ok (.aload_n 0, 1) := by decide +kernel
theorem dL_law_704 : decode code 704 = .ok (.iload_n 3, 1) := by decide +kernel
theorem dL_law_705 : decode code 705 = .ok (.iconst 1, 1) := by decide +kernel
theorem dL_law_706 : decode code 706 = .ok (.iadd, 1) := by decide +kernel
theorem dL_law_707 : decode code 707 = .ok (.iaload, 1) := by decide +kernel
theorem dL_law_708 : decode code 708 = .ok (.aload_n 0, 1) := by decide +kernel
theorem dL_law_709 : decode code 709 = .ok (.iload_n 3, 1) := by decide +kernel
theorem dL_law_710 : decode code 710 = .ok (.iconst 2, 1) := by decide +kernel
theorem dL_law_711 : decode code 711 = .ok (.iadd, 1) := by decide +kernel
theorem dL_law_712 : decode code 712 = .ok (.iaload, 1) := by decide +kernel
theorem dL_law_713 : decode code 713 = .ok (.invokevirtual 73, 3) := by decide +kernel
theorem dL_law_716 : decode code 716 = .ok (.aload_n 2, 1) := by decide +kernel
theorem dL_law_717 : decode code 717 = .ok (.aload_n 0, 1) := by decide +kernel
theorem dL_law_718 : decode code 718 = .ok (.iload_n 3, 1) := by decide +kernel
theorem dL_law_719 : decode code 719 = .ok (.iconst 1, 1) := by decide +kernel
theorem dL_law_720 : decode code 720 = .ok (.iadd, 1) := by decide +kernel
theorem dL_law_721 : decode code 721 = .ok (.iaload, 1) := by decide +kernel
theorem dL_law_722 : decode code 722 = .ok (.aload_n 0, 1) := by decide +kernel
theorem dL_law_723 : decode code 723 = .ok (.iload_n 3, 1) := by decide +kernel
theorem dL_law_724 : decode code 724 = .ok (.iconst 2, 1) := by decide +kernel
theorem dL_law_725 : decode code 725 = .ok (.iadd, 1) := by decide +kernel
theorem dL_law_726 : decode code 726 = .ok (.iaload, 1) := by decide +kernel
theorem dL_law_727 : decode code 727 = .ok (.invokevirtual 76, 3) := by decide +kernel
theorem dL_law_730 : decode code 730 = .ok (.if_icmp .eq 1496, 3) := by decide +kernel
theorem dL_law_735 : decode code 735 = .ok (.aload_n 1, 1) := by decide +kernel
theorem dL_law_736 : decode code 736 = .ok (.aload_n 0, 1) := by decide +kernel
theorem dL_law_737 : decode code 737 = .ok (.iload_n 3, 1) := by decide +kernel
theorem dL_law_738 : decode code 738 = .ok (.iconst 1, 1) := by decide +kernel
theorem dL_law_739 : decode code 739 = .ok (.iadd, 1) := by decide +kernel
theorem dL_law_740 : decode code 740 = .ok (.iaload, 1) := by decide +kernel
theorem dL_law_741 : decode code 741 = .ok (.invokevirtual 77, 3) := by decide +kernel
theorem dL_law_744 : decode code 744 = .ok (.aload_n 2, 1) := by decide +kernel
theorem dL_law_745 : decode code 745 = .ok (.aload_n 0, 1) := by decide +kernel
theorem dL_law_746 : decode code 746 = .ok (.iload_n 3, 1) := by decide +kernel
theorem dL_law_747 : decode code 747 = .ok (.iconst 1, 1) := by decide +kernel
theorem dL_law_748 : decode code 748 = .ok (.iadd, 1) := by decide +kernel
theorem dL_law_749 : decode code 749 = .ok (.iaload, 1) := by decide +kernel
theorem dL_law_750 : decode code 750 = .ok (.invokevirtual 80, 3) := by decide +kernel
theorem dL_law_753 : decode code 753 = .ok (.if_icmp .eq 1473, 3) := by decide +kernel
theorem dL_law_758 : decode code 758 = .ok (.aload_n 1, 1) := by decide +kernel
theorem dL_law_759 : decode code 759 = .ok (.aload_n 0, 1) := by decide +kernel
theorem dL_law_760 : decode code 760 = .ok (.iload_n 3, 1) := by decide +kernel
theorem dL_law_761 : decode code 761 = .ok (.iconst 1, 1) := by decide +kernel
theorem dL_law_762 : decode code 762 = .ok (.iadd, 1) := by decide +kernel
theorem dL_law_763 : decode code 763 = .ok (.iaload, 1) := by decide +kernel
theorem dL_law_764 : decode code 764 = .ok (.aload_n 0, 1) := by decide +kernel
theorem dL_law_765 : decode code 765 = .ok (.iload_n 3, 1) := by decide +kernel
theorem dL_law_766 : decode code 766 = .ok (.iconst 2, 1) := by decide +kernel
theorem dL_law_767 : decode code 767 = .ok (.iadd, 1) := by decide +kernel
theorem dL_law_768 : decode code 768 = .ok (.iaload, 1) := by decide +kernel
theorem dL_law_769 : decode code 769 = .ok (.invokevirtual 81, 3) := by decide +kernel
theorem dL_law_772 : decode code 772 = .ok (.aload_n 2, 1) := by decide +kernel
theorem dL_law_773 : decode code 773 = .ok (.aload_n 0, 1) := by decide +kernel
theorem dL_law_774 : decode code 774 = .ok (.iload_n 3, 1) := by decide +kernel
theorem dL_law_775 : decode code 775 = .ok (.iconst 1, 1) := by decide +kernel
theorem dL_law_776 : decode code 776 = .ok (.iadd, 1) := by decide +kernel
theorem dL_law_777 : decode code 777 = .ok (.iaload, 1) := by decide +kernel
theorem dL_law_778 : decode code 778 = .ok (.aload_n 0, 1) := by decide +kernel
theorem dL_law_779 : decode code 779 = .ok (.iload_n 3, 1) := by decide +kernel
theorem dL_law_780 : decode code 780 = .ok (.iconst 2, 1) := by decide +kernel
theorem dL_law_781 : decode code 781 = .ok (.iadd, 1) := by decide +kernel
theorem dL_law_782 : decode code 782 = .ok (.iaload, 1) := by decide +kernel
theorem dL_law_783 : decode code 783 = .ok (.invokevirtual 84, 3) := by decide +kernel
theorem dL_law_786 : decode code 786 = .ok (.if_icmp .eq 1440, 3) := by decide +kernel
theorem dL_law_791 : decode code 791 = .ok (.aload_n 1, 1) := by decide +kernel
theorem dL_law_792 : decode code 792 = .ok (.aload_n 0, 1) := by decide +kernel
theorem dL_law_793 : decode code 793 = .ok (.iload_n 3, 1) := by decide +kernel
theorem dL_law_794 : decode code 794 = .ok (.iconst 1, 1) := by decide +kernel
theorem dL_law_795 : decode code 795 = .ok (.iadd, 1) := by decide +kernel
theorem dL_law_796 : decode code 796 = .ok (.iaload, 1) := by decide +kernel
theorem dL_law_797 : decode code 797 = .ok (.invokevirtual 85, 3) := by decide +kernel
theorem dL_law_800 : decode code 800 = .ok (.aload_n 2, 1) := by decide +kernel
theorem dL_law_801 : decode code 801 = .ok (.aload_n 0, 1) := by decide +kernel
theorem dL_law_802 : decode code 802 = .ok (.iload_n 3, 1) := by decide +kernel
theorem dL_law_803 : decode code 803 = .ok (.iconst 1, 1) := by decide +kernel
theorem dL_law_804 : decode code 804 = .ok (.iadd, 1) := by decide +kernel
theorem dL_law_805 : decode code 805 = .ok (.iaload, 1) := by decide +kernel
theorem dL_law_806 : decode code 806 = .ok (.invokevirtual 88, 3) := by decide +kernel
theorem dL_law_809 : decode code 809 = .ok (.if_icmp .eq 1417, 3) := by decide +kernel
theorem dL_law_814 : decode code 814 = .ok (.aload_n 1, 1) := by decide +kernel
theorem dL_law_815 : decode code 815 = .ok (.aload_n 0, 1) := by decide +kernel
theorem dL_law_816 : decode code 816 = .ok (.iload_n 3, 1) := by decide +kernel
theorem dL_law_817 : decode code 817 = .ok (.iconst 1, 1) := by decide +kernel
theorem dL_law_818 : decode code 818 = .ok (.iadd, 1) := by decide +kernel
theorem dL_law_819 : decode code 819 = .ok (.iaload, 1) := by decide +kernel
theorem dL_law_820 : decode code 820 = .ok (.invokevirtual 89, 3) := by decide +kernel
theorem dL_law_823 : decode code 823 = .ok (.aload_n 2, 1) := by decide +kernel
theorem dL_law_824 : decode code 824 = .ok (.aload_n 0, 1) := by decide +kernel
theorem dL_law_825 : decode code 825 = .ok (.iload_n 3, 1) := by decide +kernel
theorem dL_law_826 : decode code 826 = .ok (.iconst 1, 1) := by decide +kernel
theorem dL_law_827 : decode code 827 = .ok (.iadd, 1) := by decide +kernel
theorem dL_law_828 : decode code 828 = .ok (.iaload, 1) := by decide +kernel
theorem dL_law_829 : decode code 829 = .ok (.invokevirtual 92, 3) := by decide +kernel
theorem dL_law_832 : decode code 832 = .ok (.if_icmp .eq 1394, 3) := by decide +kernel
theorem dL_law_837 : decode code 837 = .ok (.aload_n 1, 1) := by decide +kernel
theorem dL_law_838 : decode code 838 = .ok (.aload_n 0, 1) := by decide +kernel
theorem dL_law_839 : decode code 839 = .ok (.iload_n 3, 1) := by decide +kernel
theorem dL_law_840 : decode code 840 = .ok (.iconst 1, 1) := by decide +kernel
theorem dL_law_841 : decode code 841 = .ok (.iadd, 1) := by decide +kernel
theorem dL_law_842 : decode code 842 = .ok (.iaload, 1) := by decide +kernel
theorem dL_law_843 : decode code 843 = .ok (.aload_n 0, 1) := by decide +kernel
theorem dL_law_844 : decode code 844 = .ok (.iload_n 3, 1) := by decide +kernel
theorem dL_law_845 : decode code 845 = .ok (.iconst 2, 1) := by decide +kernel
theorem dL_law_846 : decode code 846 = .ok (.iadd, 1) := by decide +kernel
theorem dL_law_847 : decode code 847 = .ok (.iaload, 1) := by decide +kernel
theorem dL_law_848 : decode code 848 = .ok (.invokevirtual 93, 3) := by decide +kernel
theorem dL_law_851 : decode code 851 = .ok (.aload_n 2, 1) := by decide +kernel
theorem dL_law_852 : decode code 852 = .ok (.aload_n 0, 1) := by decide +kernel
theorem dL_law_853 : decode code 853 = .ok (.iload_n 3, 1) := by decide +kernel
theorem dL_law_854 : decode code 854 = .ok (.iconst 1, 1) := by decide +kernel
theorem dL_law_855 : decode code 855 = .ok (.iadd, 1) := by decide +kernel
theorem dL_law_856 : decode code 856 = .ok (.iaload, 1) := by decide +kernel
theorem dL_law_857 : decode code 857 = .ok (.aload_n 0, 1) := by decide +kernel
theorem dL_law_858 : decode code 858 = .ok (.iload_n 3, 1) := by decide +kernel
theorem dL_law_859 : decode code 859 = .ok (.iconst 2, 1) := by decide +kernel
theorem dL_law_860 : decode code 860 = .ok (.iadd, 1) := by decide +kernel
theorem dL_law_861 : decode code 861 = .ok (.iaload, 1) := by decide +kernel
theorem dL_law_862 : decode code 862 = .ok (.invokevirtual 96, 3) := by decide +kernel
theorem dL_law_865 : decode code 865 = .ok (.if_icmp .eq 1361, 3) := by decide +kernel
theorem dL_law_870 : decode code 870 = .ok (.aload_n 1, 1) := by decide +kernel
theorem dL_law_871 : decode code 871 = .ok (.aload_n 0, 1) := by decide +kernel
theorem dL_law_872 : decode code 872 = .ok (.iload_n 3, 1) := by decide +kernel
theorem dL_law_873 : decode code 873 = .ok (.iconst 1, 1) := by decide +kernel
theorem dL_law_874 : decode code 874 = .ok (.iadd, 1) := by decide +kernel
theorem dL_law_875 : decode code 875 = .ok (.iaload, 1) := by decide +kernel
theorem dL_law_876 : decode code 876 = .ok (.aload_n 0, 1) := by decide +kernel
theorem dL_law_877 : decode code 877 = .ok (.iload_n 3, 1) := by decide +kernel
theorem dL_law_878 : decode code 878 = .ok (.iconst 2, 1) := by decide +kernel
theorem dL_law_879 : decode code 879 = .ok (.iadd, 1) := by decide +kernel
theorem dL_law_880 : decode code 880 = .ok (.iaload, 1) := by decide +kernel
theorem dL_law_881 : decode code 881 = .ok (.invokevirtual 97, 3) := by decide +kernel
theorem dL_law_884 : decode code 884 = .ok (.aload_n 2, 1) := by decide +kernel
theorem dL_law_885 : decode code 885 = .ok (.aload_n 0, 1) := by decide +kernel
theorem dL_law_886 : decode code 886 = .ok (.iload_n 3, 1) := by decide +kernel
theorem dL_law_887 : decode code 887 = .ok (.iconst 1, 1) := by decide +kernel
theorem dL_law_888 : decode code 888 = .ok (.iadd, 1) := by decide +kernel
theorem dL_law_889 : decode code 889 = .ok (.iaload, 1) := by decide +kernel
theorem dL_law_890 : decode code 890 = .ok (.aload_n 0, 1) := by decide +kernel
theorem dL_law_891 : decode code 891 = .ok (.iload_n 3, 1) := by decide +kernel
theorem dL_law_892 : decode code 892 = .ok (.iconst 2, 1) := by decide +kernel
theorem dL_law_893 : decode code 893 = .ok (.iadd, 1) := by decide +kernel
theorem dL_law_894 : decode code 894 = .ok (.iaload, 1) := by decide +kernel
theorem dL_law_895 : decode code 895 = .ok (.invokevirtual 100, 3) := by decide +kernel
theorem dL_law_898 : decode code 898 = .ok (.if_icmp .eq 1328, 3) := by decide +kernel
theorem dL_law_903 : decode code 903 = .ok (.aload_n 1, 1) := by decide +kernel
theorem dL_law_904 : decode code 904 = .ok (.aload_n 0, 1) := by decide +kernel
theorem dL_law_905 : decode code 905 = .ok (.iload_n 3, 1) := by decide +kernel
theorem dL_law_906 : decode code 906 = .ok (.iconst 1, 1) := by decide +kernel
theorem dL_law_907 : decode code 907 = .ok (.iadd, 1) := by decide +kernel
theorem dL_law_908 : decode code 908 = .ok (.iaload, 1) := by decide +kernel
theorem dL_law_909 : decode code 909 = .ok (.invokevirtual 101, 3) := by decide +kernel
theorem dL_law_912 : decode code 912 = .ok (.aload_n 2, 1) := by decide +kernel
theorem dL_law_913 : decode code 913 = .ok (.aload_n 0, 1) := by decide +kernel
theorem dL_law_914 : decode code 914 = .ok (.iload_n 3, 1) := by decide +kernel
theorem dL_law_915 : decode code 915 = .ok (.iconst 1, 1) := by decide +kernel
theorem dL_law_916 : decode code 916 = .ok (.iadd, 1) := by decide +kernel
theorem dL_law_917 : decode code 917 = .ok (.iaload, 1) := by decide +kernel
theorem dL_law_918 : decode code 918 = .ok (.invokevirtual 104, 3) := by decide +kernel
theorem dL_law_921 : decode code 921 = .ok (.if_icmp .eq 1305, 3) := by decide +kernel
theorem dL_law_926 : decode code 926 = .ok (.aload_n 1, 1) := by decide +kernel
theorem dL_law_927 : decode code 927 = .ok (.aload_n 0, 1) := by decide +kernel
theorem dL_law_928 : decode code 928 = .ok (.iload_n 3, 1) := by decide +kernel
theorem dL_law_929 : decode code 929 = .ok (.iconst 1, 1) := by decide +kernel
theorem dL_law_930 : decode code 930 = .ok (.iadd, 1) := by decide +kernel
theorem dL_law_931 : decode code 931 = .ok (.iaload, 1) := by decide +kernel
theorem dL_law_932 : decode code 932 = .ok (.invokevirtual 105, 3) := by decide +kernel
theorem dL_law_935 : decode code 935 = .ok (.aload_n 2, 1) := by decide +kernel
theorem dL_law_936 : decode code 936 = .ok (.aload_n 0, 1) := by decide +kernel
theorem dL_law_937 : decode code 937 = .ok (.iload_n 3, 1) := by decide +kernel
theorem dL_law_938 : decode code 938 = .ok (.iconst 1, 1) := by decide +kernel
theorem dL_law_939 : decode code 939 = .ok (.iadd, 1) := by decide +kernel
theorem dL_law_940 : decode code 940 = .ok (.iaload, 1) := by decide +kernel
theorem dL_law_941 : decode code 941 = .ok (.invokevirtual 108, 3) := by decide +kernel
theorem dL_law_944 : decode code 944 = .ok (.if_icmp .eq 1282, 3) := by decide +kernel
set_option maxHeartbeats 4000000 in
set_option maxRecDepth 100000 in
theorem law_11 {p : Program} {e : Env} {s : State} {m : MethodId} {below : List Frame} {meth : Method} {c : Code} {l : Launch} {sb L : Nat} {xs : Nat → Int32} {A : Nat → Prop} {G : va_G} {cI cJ cZ cB cQ : ClassId} (h0 : Nat) (b : Nat → Nat) (br : Nat → Nat) (bt : Nat → Nat) (bi : Nat → Nat) (bc : Nat → Nat) (bn : Nat → Nat) (bs : Nat → Nat) (be : Nat → Nat) (bw : Nat → Nat) (h1 : Nat) (bm : Nat → Nat) {H : Heap} {locs : List Loc} (hL : L = 6) (C0 : lw_At p s m meth c sb L xs) (hAe : A = fun q => s.heap.size ≤ q) (hK : va_K G vwCl (TY cI cJ cZ cB cQ) s) (hZ : nz s) (hP : va_P G vwCl (wX cI cJ cZ cB cQ h0 b br bt bi bc bn bs be bw ++ wM cI cJ cZ cB cQ h1 bm) H) (hD : va_D A (wX cI cJ cZ cB cQ h0 b br bt bi bc bn bs be bw ++ wM cI cJ cZ cB cQ h1 bm)) (hS : va_S A s.heap H locs) (ls : Array Slot) (hl : lv_has ls 4 [(3, .int 0), (2, .ref h1), (1, .ref h0), (0, .ref sb)]) (v : Int32) (hv : v.toInt = 11) : W p l e room_1 s m #[Value.ref sb] below meth c H locs 88 8166 (lw_Z below #[Value.ref sb] s) (F0 m 33 ls [.int v]) := by
  have hL6 : L ≤ 6 := by omega
  obtain ⟨hx, hb, hr, hml, hown, hts0, hX, hbl, hlocks, hgv⟩ := id C0
  have hown : s.vm.findClass RL = some m.cls := hown
  have hts : ∀ q ∈ GW, q.before #[Value.ref sb] s = true := fun q h => hts0 q (List.mem_filter.mp h).1
  have hA : ∀ q : Nat, s.heap.size ≤ q → A q := fun q h => by rw [hAe]; exact h
  have hbA : ¬ A sb := by rw [hAe]; exact Nat.not_le.mpr hbl
  have hLT : (Int32.ofNat L).toInt = (L : Int) := nI_toInt (by omega)
  have hLi : (L : Int) = 6 := by omega
  refine lv_tableIn (off := 600) (tgt := 633) hx hb dL_law_33 (by rw [hv]; decide) (by rw [hv]; decide) (by rw [hv]; rfl) (by decide) ?_
  have hP : va_P G vwCl [(h0, oX9 b), (b 1, oX0 bc 0 0 0 0 0 0 0 0 0 0), (h1, oX10 bm 0 0 0 0 0 0 0 0 (-1) 0 0 0 0 0 0 0 0 0), (bm 1, .inl (cI, 149, .inl (fun _ => 0))), (bm 15, .inl (cZ, 80, .inl (fun _ => 0))), (bm 16, .inl (cI, 7, .inl (fun _ => 0))), (bm 21, .inl (cZ, 80, .inl (fun _ => 0))), (bm 24, .inl (cI, 80, .inl (fun _ => 0))), (bm 25, .inl (cI, 6, .inl (fun _ => 0))), (bm 29, .inl (cI, 6, .inl (fun _ => 0))), (bm 30, .inl (cZ, 1040, .inl (fun _ => 0))), (bm 31, .inl (cI, 1040, .inl (fun _ => 0))), (bm 32, .inl (cI, 78, .inl (fun _ => 0))), (bm 27, .inl (cI, 7, .inl (fun _ => 0)))] H := hP.sub [0, 14, 59, 60, 66, 67, 68, 71, 72, 76, 77, 78, 79, 74] rfl
  have hD : va_D A [(h0, oX9 b), (b 1, oX0 bc 0 0 0 0 0 0 0 0 0 0), (h1, oX10 bm 0 0 0 0 0 0 0 0 (-1) 0 0 0 0 0 0 0 0 0), (bm 1, .inl (cI, 149, .inl (fun _ => 0))), (bm 15, .inl (cZ, 80, .inl (fun _ => 0))), (bm 16, .inl (cI, 7, .inl (fun _ => 0))), (bm 21, .inl (cZ, 80, .inl (fun _ => 0))), (bm 24, .inl (cI, 80, .inl (fun _ => 0))), (bm 25, .inl (cI, 6, .inl (fun _ => 0))), (bm 29, .inl (cI, 6, .inl (fun _ => 0))), (bm 30, .inl (cZ, 1040, .inl (fun _ => 0))), (bm 31, .inl (cI, 1040, .inl (fun _ => 0))), (bm 32, .inl (cI, 78, .inl (fun _ => 0))), (bm 27, .inl (cI, 7, .inl (fun _ => 0)))] := hD.sub [0, 14, 59, 60, 66, 67, 68, 71, 72, 76, 77, 78, 79, 74] rfl rfl
  refine lv_aload_n hx hb dL_law_633 rfl (lv_at hl 2 rfl) ?_
  refine lv_aload_n hx hb dL_law_634 rfl (lv_at hl 3 rfl) ?_
  refine lv_iload_n hx hb dL_law_635 rfl (lv_at hl 0 rfl) ?_
  refine lv_iconst (v := 1) hx hb dL_law_636 (by decide) ?_
  refine lv_iadd hx hb dL_law_637 ?_
  refine lv_topi (fun v1 ev1 => ?_)
  obtain rfl : v1 = 1 := ev1.trans (by decide)
  refine va_sld hx hb hX hbl hbA hS (ix_in ki_1 (by omega) (by omega)) dL_law_638 ?_
  refine W.eq (g2 := F0 m 639 ls [.int (xs 1), .ref h0]) rfl ?_
  refine k_i (wc := [(h0, oX9 b), (b 1, oX0 bc 0 0 0 0 0 0 0 0 0 0)]) (wr := [(h1, oX10 bm 0 0 0 0 0 0 0 0 (-1) 0 0 0 0 0 0 0 0 0), (bm 1, .inl (cI, 149, .inl (fun _ => 0))), (bm 15, .inl (cZ, 80, .inl (fun _ => 0))), (bm 16, .inl (cI, 7, .inl (fun _ => 0))), (bm 21, .inl (cZ, 80, .inl (fun _ => 0))), (bm 24, .inl (cI, 80, .inl (fun _ => 0))), (bm 25, .inl (cI, 6, .inl (fun _ => 0))), (bm 29, .inl (cI, 6, .inl (fun _ => 0))), (bm 30, .inl (cZ, 1040, .inl (fun _ => 0))), (bm 31, .inl (cI, 1040, .inl (fun _ => 0))), (bm 32, .inl (cI, 78, .inl (fun _ => 0))), (bm 27, .inl (cI, 7, .inl (fun _ => 0)))]) hP hD hS hA [0, 1] [2, 3, 4, 5, 6, 7, 8, 9, 10, 11, 12, 13] rfl rfl rfl (by decide) (va_runV (As := [.int (xs 1)]) (rest := []) ⟨hx, hb, hml, hown, hts⟩ (f_X9_loop l G cI cJ cZ cB cQ _ h0 b bc (xs 1)) (cwV 1 hts (gV w_707 w_708 w_709 w_1 w_710) rfl rfl rfl ⟨rfl, hd_X9_loop⟩ ⟨Nat.le_of_ble_eq_true rfl, Nat.le_of_ble_eq_true rfl⟩) (mV hK hZ hP hD [0, 1] rfl rfl [.int (xs 1)] 0 9 rfl rfl) rfl rfl hl.1 rfl (lv_room (Nat.le_of_ble_eq_true rfl)) dL_law_639 ⟨Nat.le_of_ble_eq_true rfl, Nat.le_of_ble_eq_true rfl⟩) (fun r2 u3 H locs hw4 hP hD hS => ?_)
  try dsimp only at hw4
  have hP : va_P G vwCl [(h1, oX10 bm 0 0 0 0 0 0 0 0 (-1) 0 0 0 0 0 0 0 0 0), (bm 1, .inl (cI, 149, .inl (fun _ => 0))), (bm 15, .inl (cZ, 80, .inl (fun _ => 0))), (bm 16, .inl (cI, 7, .inl (fun _ => 0))), (bm 21, .inl (cZ, 80, .inl (fun _ => 0))), (bm 24, .inl (cI, 80, .inl (fun _ => 0))), (bm 25, .inl (cI, 6, .inl (fun _ => 0))), (bm 29, .inl (cI, 6, .inl (fun _ => 0))), (bm 30, .inl (cZ, 1040, .inl (fun _ => 0))), (bm 31, .inl (cI, 1040, .inl (fun _ => 0))), (bm 32, .inl (cI, 78, .inl (fun _ => 0))), (bm 27, .inl (cI, 7, .inl (fun _ => 0))), (h0, oX9 b), (b 1, oX0 bc 0 0 0 0 0 0 0 0 0 0)] H := hP
  have hD : va_D A [(h1, oX10 bm 0 0 0 0 0 0 0 0 (-1) 0 0 0 0 0 0 0 0 0), (bm 1, .inl (cI, 149, .inl (fun _ => 0))), (bm 15, .inl (cZ, 80, .inl (fun _ => 0))), (bm 16, .inl (cI, 7, .inl (fun _ => 0))), (bm 21, .inl (cZ, 80, .inl (fun _ => 0))), (bm 24, .inl (cI, 80, .inl (fun _ => 0))), (bm 25, .inl (cI, 6, .inl (fun _ => 0))), (bm 29, .inl (cI, 6, .inl (fun _ => 0))), (bm 30, .inl (cZ, 1040, .inl (fun _ => 0))), (bm 31, .inl (cI, 1040, .inl (fun _ => 0))), (bm 32, .inl (cI, 78, .inl (fun _ => 0))), (bm 27, .inl (cI, 7, .inl (fun _ => 0))), (h0, oX9 b), (b 1, oX0 bc 0 0 0 0 0 0 0 0 0 0)] := hD
  obtain rfl : r2 = (-2) := hw4
  refine lv_aload_n hx hb dL_law_642 rfl (lv_at hl 1 rfl) ?_
  refine lv_aload_n hx hb dL_law_643 rfl (lv_at hl 3 rfl) ?_
  refine lv_iload_n hx hb dL_law_644 rfl (lv_at hl 0 rfl) ?_
  refine lv_iconst (v := 1) hx hb dL_law_645 (by decide) ?_
  refine lv_iadd hx hb dL_law_646 ?_
  refine lv_topi (fun v5 ev5 => ?_)
  obtain rfl : v5 = 1 := ev5.trans (by decide)
  refine va_sld hx hb hX hbl hbA hS (ix_in ki_1 (by omega) (by omega)) dL_law_647 ?_
  refine W.eq (g2 := F0 m 648 ls [.int (xs 1), .ref h1, .int (-2)]) rfl ?_
  refine k_i (wc := [(h1, oX10 bm 0 0 0 0 0 0 0 0 (-1) 0 0 0 0 0 0 0 0 0), (bm 1, .inl (cI, 149, .inl (fun _ => 0))), (bm 15, .inl (cZ, 80, .inl (fun _ => 0))), (bm 16, .inl (cI, 7, .inl (fun _ => 0))), (bm 21, .inl (cZ, 80, .inl (fun _ => 0))), (bm 24, .inl (cI, 80, .inl (fun _ => 0))), (bm 25, .inl (cI, 6, .inl (fun _ => 0))), (bm 29, .inl (cI, 6, .inl (fun _ => 0))), (bm 30, .inl (cZ, 1040, .inl (fun _ => 0))), (bm 31, .inl (cI, 1040, .inl (fun _ => 0))), (bm 32, .inl (cI, 78, .inl (fun _ => 0))), (bm 27, .inl (cI, 7, .inl (fun _ => 0)))]) (wr := [(h0, oX9 b), (b 1, oX0 bc 0 0 0 0 0 0 0 0 0 0)]) hP hD hS hA [0, 1, 2, 3, 4, 5, 6, 7, 8, 9, 10, 11] [12, 13] rfl rfl rfl (by decide) (va_runV (As := [.int (xs 1)]) (rest := [.int (-2)]) ⟨hx, hb, hml, hown, hts⟩ (f_X10_loop l G cI cJ cZ cB cQ _ h1 bm (xs 1)) (cwV 1 hts (gV w_1600 w_1601 w_1602 w_11 w_1603) rfl rfl rfl ⟨rfl, hd_X10_loop⟩ ⟨Nat.le_of_ble_eq_true rfl, Nat.le_of_ble_eq_true rfl⟩) (mV hK hZ hP hD [0, 1, 2, 3, 4, 5, 6, 7, 8, 9, 10, 11] rfl rfl [.int (xs 1)] 0 10 rfl rfl) rfl rfl hl.1 rfl (lv_room (Nat.le_of_ble_eq_true rfl)) dL_law_648 ⟨Nat.le_of_ble_eq_true rfl, Nat.le_of_ble_eq_true rfl⟩) (fun r6 u7 H locs hw8 hP hD hS => ?_)
  obtain ⟨f09, rfl⟩ : ∃ z, z = u7 := ⟨_, rfl⟩
  try dsimp only at hw8
  have hP : va_P G vwCl [(h0, oX9 b), (b 1, oX0 bc 0 0 0 0 0 0 0 0 0 0), (h1, oX10 bm 0 0 0 0 0 0 0 0 (-1) 0 0 (-1) 0 0 0 0 0 0), (bm 1, .inl (cI, 149, .inl (fun _ => 0))), (bm 15, .inl (cZ, 80, .inl (fun _ => 0))), (bm 16, .inl (cI, 7, .inl (fun _ => 0))), (bm 21, .inl (cZ, 80, .inl (fun _ => 0))), (bm 24, .inl (cI, 80, .inl (fun _ => 0))), (bm 25, .inl (cI, 6, .inl (fun _ => 0))), (bm 29, .inl (cI, 6, .inl (fun _ => 0))), (bm 30, .inl (cZ, 1040, .inl (fun _ => 0))), (bm 31, .inl (cI, 1040, .inl (fun _ => 0))), (bm 32, .inl (cI, 78, .inl (fun _ => 0))), (bm 27, .inl (cI, 7, .inl f09))] H := hP
  have hD : va_D A [(h0, oX9 b), (b 1, oX0 bc 0 0 0 0 0 0 0 0 0 0), (h1, oX10 bm 0 0 0 0 0 0 0 0 (-1) 0 0 (-1) 0 0 0 0 0 0), (bm 1, .inl (cI, 149, .inl (fun _ => 0))), (bm 15, .inl (cZ, 80, .inl (fun _ => 0))), (bm 16, .inl (cI, 7, .inl (fun _ => 0))), (bm 21, .inl (cZ, 80, .inl (fun _ => 0))), (bm 24, .inl (cI, 80, .inl (fun _ => 0))), (bm 25, .inl (cI, 6, .inl (fun _ => 0))), (bm 29, .inl (cI, 6, .inl (fun _ => 0))), (bm 30, .inl (cZ, 1040, .inl (fun _ => 0))), (bm 31, .inl (cI, 1040, .inl (fun _ => 0))), (bm 32, .inl (cI, 78, .inl (fun _ => 0))), (bm 27, .inl (cI, 7, .inl f09))] := hD
  obtain rfl : r6 = (-2) := hw8
  refine lv_icmp_eq (tgt := 2226) hx hb dL_law_651 (by decide) (fun c10 => ?_) (fun c10 => absurd (by decide) c10)
  refine lv_iinc (v := 6) (lv' := [(3, .int 6), (2, .ref h1), (1, .ref h0), (0, .ref sb)]) hx hb dL_law_2226 hl (k := 0) rfl (by decide) (by decide) rfl (fun ls hl => ?_)
  refine lv_goto (tgt := 18) hx hb dL_law_2229 (by decide) ?_
  exact law_exit hL6 C0 hAe hS ls (lv_sub hl [3, 0] rfl) (by decide) (by decide)
set_option maxHeartbeats 4000000 in
set_option maxRecDepth 100000 in
theorem law_12 {p : Program} {e : Env} {s : State} {m : MethodId} {below : List Frame} {meth : Method} {c : Code} {l : Launch} {sb L : Nat} {xs : Nat → Int32} {A : Nat → Prop} {G : va_G} {cI cJ cZ cB cQ : ClassId} (h0 : Nat) (b : Nat → Nat) (br : Nat → Nat) (bt : Nat → Nat) (bi : Nat → Nat) (bc : Nat → Nat) (bn : Nat → Nat) (bs : Nat → Nat) (be : Nat → Nat) (bw : Nat → Nat) (h1 : Nat) (bm : Nat → Nat) {H : Heap} {locs : List Loc} (hL : L = 6) (C0 : lw_At p s m meth c sb L xs) (hAe : A = fun q => s.heap.size ≤ q) (hK : va_K G vwCl (TY cI cJ cZ cB cQ) s) (hZ : nz s) (hP : va_P G vwCl (wX cI cJ cZ cB cQ h0 b br bt bi bc bn bs be bw ++ wM cI cJ cZ cB cQ h1 bm) H) (hD : va_D A (wX cI cJ cZ cB cQ h0 b br bt bi bc bn bs be bw ++ wM cI cJ cZ cB cQ h1 bm)) (hS : va_S A s.heap H locs) (ls : Array Slot) (hl : lv_has ls 4 [(3, .int 0), (2, .ref h1), (1, .ref h0), (0, .ref sb)]) (v : Int32) (hv : v.toInt = 12) : W p l e room_1 s m #[Value.ref sb] below meth c H locs 88 8166 (lw_Z below #[Value.ref sb] s) (F0 m 33 ls [.int v]) := by
  have hL6 : L ≤ 6 := by omega
  obtain ⟨hx, hb, hr, hml, hown, hts0, hX, hbl, hlocks, hgv⟩ := id C0
  have hown : s.vm.findClass RL = some m.cls := hown
  have hts : ∀ q ∈ GW, q.before #[Value.ref sb] s = true := fun q h => hts0 q (List.mem_filter.mp h).1
  have hA : ∀ q : Nat, s.heap.size ≤ q → A q := fun q h => by rw [hAe]; exact h
  have hbA : ¬ A sb := by rw [hAe]; exact Nat.not_le.mpr hbl
  have hLT : (Int32.ofNat L).toInt = (L : Int) := nI_toInt (by omega)
  have hLi : (L : Int) = 6 := by omega
  refine lv_tableIn (off := 623) (tgt := 656) hx hb dL_law_33 (by rw [hv]; decide) (by rw [hv]; decide) (by rw [hv]; rfl) (by decide) ?_
  have hP : va_P G vwCl [(h0, oX9 b), (b 1, oX0 bc 0 0 0 0 0 0 0 0 0 0), (h1, oX10 bm 0 0 0 0 0 0 0 0 (-1) 0 0 0 0 0 0 0 0 0), (bm 1, .inl (cI, 149, .inl (fun _ => 0))), (bm 15, .inl (cZ, 80, .inl (fun _ => 0))), (bm 16, .inl (cI, 7, .inl (fun _ => 0))), (bm 21, .inl (cZ, 80, .inl (fun _ => 0))), (bm 24, .inl (cI, 80, .inl (fun _ => 0))), (bm 25, .inl (cI, 6, .inl (fun _ => 0))), (bm 29, .inl (cI, 6, .inl (fun _ => 0))), (bm 30, .inl (cZ, 1040, .inl (fun _ => 0))), (bm 31, .inl (cI, 1040, .inl (fun _ => 0))), (bm 32, .inl (cI, 78, .inl (fun _ => 0))), (bm 27, .inl (cI, 7, .inl (fun _ => 0)))] H := hP.sub [0, 14, 59, 60, 66, 67, 68, 71, 72, 76, 77, 78, 79, 74] rfl
  have hD : va_D A [(h0, oX9 b), (b 1, oX0 bc 0 0 0 0 0 0 0 0 0 0), (h1, oX10 bm 0 0 0 0 0 0 0 0 (-1) 0 0 0 0 0 0 0 0 0), (bm 1, .inl (cI, 149, .inl (fun _ => 0))), (bm 15, .inl (cZ, 80, .inl (fun _ => 0))), (bm 16, .inl (cI, 7, .inl (fun _ => 0))), (bm 21, .inl (cZ, 80, .inl (fun _ => 0))), (bm 24, .inl (cI, 80, .inl (fun _ => 0))), (bm 25, .inl (cI, 6, .inl (fun _ => 0))), (bm 29, .inl (cI, 6, .inl (fun _ => 0))), (bm 30, .inl (cZ, 1040, .inl (fun _ => 0))), (bm 31, .inl (cI, 1040, .inl (fun _ => 0))), (bm 32, .inl (cI, 78, .inl (fun _ => 0))), (bm 27, .inl (cI, 7, .inl (fun _ => 0)))] := hD.sub [0, 14, 59, 60, 66, 67, 68, 71, 72, 76, 77, 78, 79, 74] rfl rfl
  refine lv_aload_n hx hb dL_law_656 rfl (lv_at hl 2 rfl) ?_
  refine lv_aload_n hx hb dL_law_657 rfl (lv_at hl 3 rfl) ?_
  refine lv_iload_n hx hb dL_law_658 rfl (lv_at hl 0 rfl) ?_
  refine lv_iconst (v := 1) hx hb dL_law_659 (by decide) ?_
  refine lv_iadd hx hb dL_law_660 ?_
  refine lv_topi (fun v1 ev1 => ?_)
  obtain rfl : v1 = 1 := ev1.trans (by decide)
  refine va_sld hx hb hX hbl hbA hS (ix_in ki_1 (by omega) (by omega)) dL_law_661 ?_
  refine W.eq (g2 := F0 m 662 ls [.int (xs 1), .ref h0]) rfl ?_
  refine k_i (wc := [(h0, oX9 b), (b 1, oX0 bc 0 0 0 0 0 0 0 0 0 0)]) (wr := [(h1, oX10 bm 0 0 0 0 0 0 0 0 (-1) 0 0 0 0 0 0 0 0 0), (bm 1, .inl (cI, 149, .inl (fun _ => 0))), (bm 15, .inl (cZ, 80, .inl (fun _ => 0))), (bm 16, .inl (cI, 7, .inl (fun _ => 0))), (bm 21, .inl (cZ, 80, .inl (fun _ => 0))), (bm 24, .inl (cI, 80, .inl (fun _ => 0))), (bm 25, .inl (cI, 6, .inl (fun _ => 0))), (bm 29, .inl (cI, 6, .inl (fun _ => 0))), (bm 30, .inl (cZ, 1040, .inl (fun _ => 0))), (bm 31, .inl (cI, 1040, .inl (fun _ => 0))), (bm 32, .inl (cI, 78, .inl (fun _ => 0))), (bm 27, .inl (cI, 7, .inl (fun _ => 0)))]) hP hD hS hA [0, 1] [2, 3, 4, 5, 6, 7, 8, 9, 10, 11, 12, 13] rfl rfl rfl (by decide) (va_runV (As := [.int (xs 1)]) (rest := []) ⟨hx, hb, hml, hown, hts⟩ (f_X9_haunt l G cI cJ cZ cB cQ _ h0 b bc (xs 1)) (cwV 1 hts (gV w_711 w_712 w_713 w_1 w_714) rfl rfl rfl ⟨rfl, hd_X9_haunt⟩ ⟨Nat.le_of_ble_eq_true rfl, Nat.le_of_ble_eq_true rfl⟩) (mV hK hZ hP hD [0, 1] rfl rfl [.int (xs 1)] 0 9 rfl rfl) rfl rfl hl.1 rfl (lv_room (Nat.le_of_ble_eq_true rfl)) dL_law_662 ⟨Nat.le_of_ble_eq_true rfl, Nat.le_of_ble_eq_true rfl⟩) (fun r2 u3 H locs hw4 hP hD hS => ?_)
  try dsimp only at hw4
  have hP : va_P G vwCl [(h1, oX10 bm 0 0 0 0 0 0 0 0 (-1) 0 0 0 0 0 0 0 0 0), (bm 1, .inl (cI, 149, .inl (fun _ => 0))), (bm 15, .inl (cZ, 80, .inl (fun _ => 0))), (bm 16, .inl (cI, 7, .inl (fun _ => 0))), (bm 21, .inl (cZ, 80, .inl (fun _ => 0))), (bm 24, .inl (cI, 80, .inl (fun _ => 0))), (bm 25, .inl (cI, 6, .inl (fun _ => 0))), (bm 29, .inl (cI, 6, .inl (fun _ => 0))), (bm 30, .inl (cZ, 1040, .inl (fun _ => 0))), (bm 31, .inl (cI, 1040, .inl (fun _ => 0))), (bm 32, .inl (cI, 78, .inl (fun _ => 0))), (bm 27, .inl (cI, 7, .inl (fun _ => 0))), (h0, oX9 b), (b 1, oX0 bc 0 0 0 0 0 0 0 0 0 0)] H := hP
  have hD : va_D A [(h1, oX10 bm 0 0 0 0 0 0 0 0 (-1) 0 0 0 0 0 0 0 0 0), (bm 1, .inl (cI, 149, .inl (fun _ => 0))), (bm 15, .inl (cZ, 80, .inl (fun _ => 0))), (bm 16, .inl (cI, 7, .inl (fun _ => 0))), (bm 21, .inl (cZ, 80, .inl (fun _ => 0))), (bm 24, .inl (cI, 80, .inl (fun _ => 0))), (bm 25, .inl (cI, 6, .inl (fun _ => 0))), (bm 29, .inl (cI, 6, .inl (fun _ => 0))), (bm 30, .inl (cZ, 1040, .inl (fun _ => 0))), (bm 31, .inl (cI, 1040, .inl (fun _ => 0))), (bm 32, .inl (cI, 78, .inl (fun _ => 0))), (bm 27, .inl (cI, 7, .inl (fun _ => 0))), (h0, oX9 b), (b 1, oX0 bc 0 0 0 0 0 0 0 0 0 0)] := hD
  obtain rfl : r2 = (-2) := hw4
  refine lv_aload_n hx hb dL_law_665 rfl (lv_at hl 1 rfl) ?_
  refine lv_aload_n hx hb dL_law_666 rfl (lv_at hl 3 rfl) ?_
  refine lv_iload_n hx hb dL_law_667 rfl (lv_at hl 0 rfl) ?_
  refine lv_iconst (v := 1) hx hb dL_law_668 (by decide) ?_
  refine lv_iadd hx hb dL_law_669 ?_
  refine lv_topi (fun v5 ev5 => ?_)
  obtain rfl : v5 = 1 := ev5.trans (by decide)
  refine va_sld hx hb hX hbl hbA hS (ix_in ki_1 (by omega) (by omega)) dL_law_670 ?_
  refine W.eq (g2 := F0 m 671 ls [.int (xs 1), .ref h1, .int (-2)]) rfl ?_
  refine k_i (wc := [(h1, oX10 bm 0 0 0 0 0 0 0 0 (-1) 0 0 0 0 0 0 0 0 0), (bm 1, .inl (cI, 149, .inl (fun _ => 0))), (bm 15, .inl (cZ, 80, .inl (fun _ => 0))), (bm 16, .inl (cI, 7, .inl (fun _ => 0))), (bm 21, .inl (cZ, 80, .inl (fun _ => 0))), (bm 24, .inl (cI, 80, .inl (fun _ => 0))), (bm 25, .inl (cI, 6, .inl (fun _ => 0))), (bm 29, .inl (cI, 6, .inl (fun _ => 0))), (bm 30, .inl (cZ, 1040, .inl (fun _ => 0))), (bm 31, .inl (cI, 1040, .inl (fun _ => 0))), (bm 32, .inl (cI, 78, .inl (fun _ => 0))), (bm 27, .inl (cI, 7, .inl (fun _ => 0)))]) (wr := [(h0, oX9 b), (b 1, oX0 bc 0 0 0 0 0 0 0 0 0 0)]) hP hD hS hA [0, 1, 2, 3, 4, 5, 6, 7, 8, 9, 10, 11] [12, 13] rfl rfl rfl (by decide) (va_runV (As := [.int (xs 1)]) (rest := [.int (-2)]) ⟨hx, hb, hml, hown, hts⟩ (f_X10_haunt l G cI cJ cZ cB cQ _ h1 bm (xs 1)) (cwV 1 hts (gV w_1604 w_1605 w_1606 w_11 w_1607) rfl rfl rfl ⟨rfl, hd_X10_haunt⟩ ⟨Nat.le_of_ble_eq_true rfl, Nat.le_of_ble_eq_true rfl⟩) (mV hK hZ hP hD [0, 1, 2, 3, 4, 5, 6, 7, 8, 9, 10, 11] rfl rfl [.int (xs 1)] 0 10 rfl rfl) rfl rfl hl.1 rfl (lv_room (Nat.le_of_ble_eq_true rfl)) dL_law_671 ⟨Nat.le_of_ble_eq_true rfl, Nat.le_of_ble_eq_true rfl⟩) (fun r6 u7 H locs hw8 hP hD hS => ?_)
  obtain ⟨f09, rfl⟩ : ∃ z, z = u7 := ⟨_, rfl⟩
  try dsimp only at hw8
  have hP : va_P G vwCl [(h0, oX9 b), (b 1, oX0 bc 0 0 0 0 0 0 0 0 0 0), (h1, oX10 bm 0 0 0 0 0 0 0 0 (-1) 0 0 (-1) 0 0 0 0 0 0), (bm 1, .inl (cI, 149, .inl (fun _ => 0))), (bm 15, .inl (cZ, 80, .inl (fun _ => 0))), (bm 16, .inl (cI, 7, .inl (fun _ => 0))), (bm 21, .inl (cZ, 80, .inl (fun _ => 0))), (bm 24, .inl (cI, 80, .inl (fun _ => 0))), (bm 25, .inl (cI, 6, .inl (fun _ => 0))), (bm 29, .inl (cI, 6, .inl (fun _ => 0))), (bm 30, .inl (cZ, 1040, .inl (fun _ => 0))), (bm 31, .inl (cI, 1040, .inl (fun _ => 0))), (bm 32, .inl (cI, 78, .inl (fun _ => 0))), (bm 27, .inl (cI, 7, .inl f09))] H := hP
  have hD : va_D A [(h0, oX9 b), (b 1, oX0 bc 0 0 0 0 0 0 0 0 0 0), (h1, oX10 bm 0 0 0 0 0 0 0 0 (-1) 0 0 (-1) 0 0 0 0 0 0), (bm 1, .inl (cI, 149, .inl (fun _ => 0))), (bm 15, .inl (cZ, 80, .inl (fun _ => 0))), (bm 16, .inl (cI, 7, .inl (fun _ => 0))), (bm 21, .inl (cZ, 80, .inl (fun _ => 0))), (bm 24, .inl (cI, 80, .inl (fun _ => 0))), (bm 25, .inl (cI, 6, .inl (fun _ => 0))), (bm 29, .inl (cI, 6, .inl (fun _ => 0))), (bm 30, .inl (cZ, 1040, .inl (fun _ => 0))), (bm 31, .inl (cI, 1040, .inl (fun _ => 0))), (bm 32, .inl (cI, 78, .inl (fun _ => 0))), (bm 27, .inl (cI, 7, .inl f09))] := hD
  obtain rfl : r6 = (-2) := hw8
  refine lv_icmp_eq (tgt := 2226) hx hb dL_law_674 (by decide) (fun c10 => ?_) (fun c10 => absurd (by decide) c10)
  refine lv_iinc (v := 6) (lv' := [(3, .int 6), (2, .ref h1), (1, .ref h0), (0, .ref sb)]) hx hb dL_law_2226 hl (k := 0) rfl (by decide) (by decide) rfl (fun ls hl => ?_)
  refine lv_goto (tgt := 18) hx hb dL_law_2229 (by decide) ?_
  exact law_exit hL6 C0 hAe hS ls (lv_sub hl [3, 0] rfl) (by decide) (by decide)
set_option maxHeartbeats 4000000 in
set_option maxRecDepth 100000 in
theorem law_13 {p : Program} {e : Env} {s : State} {m : MethodId} {below : List Frame} {meth : Method} {c : Code} {l : Launch} {sb L : Nat} {xs : Nat → Int32} {A : Nat → Prop} {G : va_G} {cI cJ cZ cB cQ : ClassId} (h0 : Nat) (b : Nat → Nat) (br : Nat → Nat) (bt : Nat → Nat) (bi : Nat → Nat) (bc : Nat → Nat) (bn : Nat → Nat) (bs : Nat → Nat) (be : Nat → Nat) (bw : Nat → Nat) (h1 : Nat) (bm : Nat → Nat) {H : Heap} {locs : List Loc} (hL : L = 6) (C0 : lw_At p s m meth c sb L xs) (hAe : A = fun q => s.heap.size ≤ q) (hK : va_K G vwCl (TY cI cJ cZ cB cQ) s) (hZ : nz s) (hP : va_P G vwCl (wX cI cJ cZ cB cQ h0 b br bt bi bc bn bs be bw ++ wM cI cJ cZ cB cQ h1 bm) H) (hD : va_D A (wX cI cJ cZ cB cQ h0 b br bt bi bc bn bs be bw ++ wM cI cJ cZ cB cQ h1 bm)) (hS : va_S A s.heap H locs) (ls : Array Slot) (hl : lv_has ls 4 [(3, .int 0), (2, .ref h1), (1, .ref h0), (0, .ref sb)]) (v : Int32) (hv : v.toInt = 13) : W p l e room_1 s m #[Value.ref sb] below meth c H locs 88 8166 (lw_Z below #[Value.ref sb] s) (F0 m 33 ls [.int v]) := by
  have hL6 : L ≤ 6 := by omega
  obtain ⟨hx, hb, hr, hml, hown, hts0, hX, hbl, hlocks, hgv⟩ := id C0
  have hown : s.vm.findClass RL = some m.cls := hown
  have hts : ∀ q ∈ GW, q.before #[Value.ref sb] s = true := fun q h => hts0 q (List.mem_filter.mp h).1
  have hA : ∀ q : Nat, s.heap.size ≤ q → A q := fun q h => by rw [hAe]; exact h
  have hbA : ¬ A sb := by rw [hAe]; exact Nat.not_le.mpr hbl
  have hLT : (Int32.ofNat L).toInt = (L : Int) := nI_toInt (by omega)
  have hLi : (L : Int) = 6 := by omega
  refine lv_tableIn (off := 646) (tgt := 679) hx hb dL_law_33 (by rw [hv]; decide) (by rw [hv]; decide) (by rw [hv]; rfl) (by decide) ?_
  have hP : va_P G vwCl [(h0, oX9 b), (b 1, oX0 bc 0 0 0 0 0 0 0 0 0 0), (h1, oX10 bm 0 0 0 0 0 0 0 0 (-1) 0 0 0 0 0 0 0 0 0), (bm 1, .inl (cI, 149, .inl (fun _ => 0))), (bm 15, .inl (cZ, 80, .inl (fun _ => 0))), (bm 16, .inl (cI, 7, .inl (fun _ => 0))), (bm 21, .inl (cZ, 80, .inl (fun _ => 0))), (bm 24, .inl (cI, 80, .inl (fun _ => 0))), (bm 25, .inl (cI, 6, .inl (fun _ => 0))), (bm 29, .inl (cI, 6, .inl (fun _ => 0))), (bm 30, .inl (cZ, 1040, .inl (fun _ => 0))), (bm 31, .inl (cI, 1040, .inl (fun _ => 0))), (bm 32, .inl (cI, 78, .inl (fun _ => 0))), (bm 27, .inl (cI, 7, .inl (fun _ => 0)))] H := hP.sub [0, 14, 59, 60, 66, 67, 68, 71, 72, 76, 77, 78, 79, 74] rfl
  have hD : va_D A [(h0, oX9 b), (b 1, oX0 bc 0 0 0 0 0 0 0 0 0 0), (h1, oX10 bm 0 0 0 0 0 0 0 0 (-1) 0 0 0 0 0 0 0 0 0), (bm 1, .inl (cI, 149, .inl (fun _ => 0))), (bm 15, .inl (cZ, 80, .inl (fun _ => 0))), (bm 16, .inl (cI, 7, .inl (fun _ => 0))), (bm 21, .inl (cZ, 80, .inl (fun _ => 0))), (bm 24, .inl (cI, 80, .inl (fun _ => 0))), (bm 25, .inl (cI, 6, .inl (fun _ => 0))), (bm 29, .inl (cI, 6, .inl (fun _ => 0))), (bm 30, .inl (cZ, 1040, .inl (fun _ => 0))), (bm 31, .inl (cI, 1040, .inl (fun _ => 0))), (bm 32, .inl (cI, 78, .inl (fun _ => 0))), (bm 27, .inl (cI, 7, .inl (fun _ => 0)))] := hD.sub [0, 14, 59, 60, 66, 67, 68, 71, 72, 76, 77, 78, 79, 74] rfl rfl
  refine lv_aload_n hx hb dL_law_679 rfl (lv_at hl 2 rfl) ?_
  refine lv_aload_n hx hb dL_law_680 rfl (lv_at hl 3 rfl) ?_
  refine lv_iload_n hx hb dL_law_681 rfl (lv_at hl 0 rfl) ?_
  refine lv_iconst (v := 1) hx hb dL_law_682 (by decide) ?_
  refine lv_iadd hx hb dL_law_683 ?_
  refine lv_topi (fun v1 ev1 => ?_)
  obtain rfl : v1 = 1 := ev1.trans (by decide)
  refine va_sld hx hb hX hbl hbA hS (ix_in ki_1 (by omega) (by omega)) dL_law_684 ?_
  refine W.eq (g2 := F0 m 685 ls [.int (xs 1), .ref h0]) rfl ?_
  refine k_i (wc := [(h0, oX9 b), (b 1, oX0 bc 0 0 0 0 0 0 0 0 0 0)]) (wr := [(h1, oX10 bm 0 0 0 0 0 0 0 0 (-1) 0 0 0 0 0 0 0 0 0), (bm 1, .inl (cI, 149, .inl (fun _ => 0))), (bm 15, .inl (cZ, 80, .inl (fun _ => 0))), (bm 16, .inl (cI, 7, .inl (fun _ => 0))), (bm 21, .inl (cZ, 80, .inl (fun _ => 0))), (bm 24, .inl (cI, 80, .inl (fun _ => 0))), (bm 25, .inl (cI, 6, .inl (fun _ => 0))), (bm 29, .inl (cI, 6, .inl (fun _ => 0))), (bm 30, .inl (cZ, 1040, .inl (fun _ => 0))), (bm 31, .inl (cI, 1040, .inl (fun _ => 0))), (bm 32, .inl (cI, 78, .inl (fun _ => 0))), (bm 27, .inl (cI, 7, .inl (fun _ => 0)))]) hP hD hS hA [0, 1] [2, 3, 4, 5, 6, 7, 8, 9, 10, 11, 12, 13] rfl rfl rfl (by decide) (va_runV (As := [.int (xs 1)]) (rest := []) ⟨hx, hb, hml, hown, hts⟩ (f_X9_evening l G cI cJ cZ cB cQ _ h0 b bc (xs 1)) (cwV 1 hts (gV w_720 w_721 w_722 w_1 w_723) rfl rfl rfl ⟨rfl, hd_X9_evening⟩ ⟨Nat.le_of_ble_eq_true rfl, Nat.le_of_ble_eq_true rfl⟩) (mV hK hZ hP hD [0, 1] rfl rfl [.int (xs 1)] 0 9 rfl rfl) rfl rfl hl.1 rfl (lv_room (Nat.le_of_ble_eq_true rfl)) dL_law_685 ⟨Nat.le_of_ble_eq_true rfl, Nat.le_of_ble_eq_true rfl⟩) (fun r2 u3 H locs hw4 hP hD hS => ?_)
  try dsimp only at hw4
  have hP : va_P G vwCl [(h1, oX10 bm 0 0 0 0 0 0 0 0 (-1) 0 0 0 0 0 0 0 0 0), (bm 1, .inl (cI, 149, .inl (fun _ => 0))), (bm 15, .inl (cZ, 80, .inl (fun _ => 0))), (bm 16, .inl (cI, 7, .inl (fun _ => 0))), (bm 21, .inl (cZ, 80, .inl (fun _ => 0))), (bm 24, .inl (cI, 80, .inl (fun _ => 0))), (bm 25, .inl (cI, 6, .inl (fun _ => 0))), (bm 29, .inl (cI, 6, .inl (fun _ => 0))), (bm 30, .inl (cZ, 1040, .inl (fun _ => 0))), (bm 31, .inl (cI, 1040, .inl (fun _ => 0))), (bm 32, .inl (cI, 78, .inl (fun _ => 0))), (bm 27, .inl (cI, 7, .inl (fun _ => 0))), (h0, oX9 b), (b 1, oX0 bc 0 0 0 0 0 0 0 0 0 0)] H := hP
  have hD : va_D A [(h1, oX10 bm 0 0 0 0 0 0 0 0 (-1) 0 0 0 0 0 0 0 0 0), (bm 1, .inl (cI, 149, .inl (fun _ => 0))), (bm 15, .inl (cZ, 80, .inl (fun _ => 0))), (bm 16, .inl (cI, 7, .inl (fun _ => 0))), (bm 21, .inl (cZ, 80, .inl (fun _ => 0))), (bm 24, .inl (cI, 80, .inl (fun _ => 0))), (bm 25, .inl (cI, 6, .inl (fun _ => 0))), (bm 29, .inl (cI, 6, .inl (fun _ => 0))), (bm 30, .inl (cZ, 1040, .inl (fun _ => 0))), (bm 31, .inl (cI, 1040, .inl (fun _ => 0))), (bm 32, .inl (cI, 78, .inl (fun _ => 0))), (bm 27, .inl (cI, 7, .inl (fun _ => 0))), (h0, oX9 b), (b 1, oX0 bc 0 0 0 0 0 0 0 0 0 0)] := hD
  obtain rfl : r2 = (-2) := hw4
  refine lv_aload_n hx hb dL_law_688 rfl (lv_at hl 1 rfl) ?_
  refine lv_aload_n hx hb dL_law_689 rfl (lv_at hl 3 rfl) ?_
  refine lv_iload_n hx hb dL_law_690 rfl (lv_at hl 0 rfl) ?_
  refine lv_iconst (v := 1) hx hb dL_law_691 (by decide) ?_
  refine lv_iadd hx hb dL_law_692 ?_
  refine lv_topi (fun v5 ev5 => ?_)
  obtain rfl : v5 = 1 := ev5.trans (by decide)
  refine va_sld hx hb hX hbl hbA hS (ix_in ki_1 (by omega) (by omega)) dL_law_693 ?_
  refine W.eq (g2 := F0 m 694 ls [.int (xs 1), .ref h1, .int (-2)]) rfl ?_
  refine k_i (wc := [(h1, oX10 bm 0 0 0 0 0 0 0 0 (-1) 0 0 0 0 0 0 0 0 0), (bm 1, .inl (cI, 149, .inl (fun _ => 0))), (bm 15, .inl (cZ, 80, .inl (fun _ => 0))), (bm 16, .inl (cI, 7, .inl (fun _ => 0))), (bm 21, .inl (cZ, 80, .inl (fun _ => 0))), (bm 24, .inl (cI, 80, .inl (fun _ => 0))), (bm 25, .inl (cI, 6, .inl (fun _ => 0))), (bm 29, .inl (cI, 6, .inl (fun _ => 0))), (bm 30, .inl (cZ, 1040, .inl (fun _ => 0))), (bm 31, .inl (cI, 1040, .inl (fun _ => 0))), (bm 32, .inl (cI, 78, .inl (fun _ => 0))), (bm 27, .inl (cI, 7, .inl (fun _ => 0)))]) (wr := [(h0, oX9 b), (b 1, oX0 bc 0 0 0 0 0 0 0 0 0 0)]) hP hD hS hA [0, 1, 2, 3, 4, 5, 6, 7, 8, 9, 10, 11] [12, 13] rfl rfl rfl (by decide) (va_runV (As := [.int (xs 1)]) (rest := [.int (-2)]) ⟨hx, hb, hml, hown, hts⟩ (f_X10_evening l G cI cJ cZ cB cQ _ h1 bm (xs 1)) (cwV 1 hts (gV w_1616 w_1617 w_1618 w_11 w_1619) rfl rfl rfl ⟨rfl, hd_X10_evening⟩ ⟨Nat.le_of_ble_eq_true rfl, Nat.le_of_ble_eq_true rfl⟩) (mV hK hZ hP hD [0, 1, 2, 3, 4, 5, 6, 7, 8, 9, 10, 11] rfl rfl [.int (xs 1)] 0 10 rfl rfl) rfl rfl hl.1 rfl (lv_room (Nat.le_of_ble_eq_true rfl)) dL_law_694 ⟨Nat.le_of_ble_eq_true rfl, Nat.le_of_ble_eq_true rfl⟩) (fun r6 u7 H locs hw8 hP hD hS => ?_)
  obtain ⟨f09, rfl⟩ : ∃ z, z = u7 := ⟨_, rfl⟩
  try dsimp only at hw8
  have hP : va_P G vwCl [(h0, oX9 b), (b 1, oX0 bc 0 0 0 0 0 0 0 0 0 0), (h1, oX10 bm 0 0 0 0 0 0 0 0 (-1) 0 0 (-1) 0 0 0 0 0 0), (bm 1, .inl (cI, 149, .inl (fun _ => 0))), (bm 15, .inl (cZ, 80, .inl (fun _ => 0))), (bm 16, .inl (cI, 7, .inl (fun _ => 0))), (bm 21, .inl (cZ, 80, .inl (fun _ => 0))), (bm 24, .inl (cI, 80, .inl (fun _ => 0))), (bm 25, .inl (cI, 6, .inl (fun _ => 0))), (bm 29, .inl (cI, 6, .inl (fun _ => 0))), (bm 30, .inl (cZ, 1040, .inl (fun _ => 0))), (bm 31, .inl (cI, 1040, .inl (fun _ => 0))), (bm 32, .inl (cI, 78, .inl (fun _ => 0))), (bm 27, .inl (cI, 7, .inl f09))] H := hP
  have hD : va_D A [(h0, oX9 b), (b 1, oX0 bc 0 0 0 0 0 0 0 0 0 0), (h1, oX10 bm 0 0 0 0 0 0 0 0 (-1) 0 0 (-1) 0 0 0 0 0 0), (bm 1, .inl (cI, 149, .inl (fun _ => 0))), (bm 15, .inl (cZ, 80, .inl (fun _ => 0))), (bm 16, .inl (cI, 7, .inl (fun _ => 0))), (bm 21, .inl (cZ, 80, .inl (fun _ => 0))), (bm 24, .inl (cI, 80, .inl (fun _ => 0))), (bm 25, .inl (cI, 6, .inl (fun _ => 0))), (bm 29, .inl (cI, 6, .inl (fun _ => 0))), (bm 30, .inl (cZ, 1040, .inl (fun _ => 0))), (bm 31, .inl (cI, 1040, .inl (fun _ => 0))), (bm 32, .inl (cI, 78, .inl (fun _ => 0))), (bm 27, .inl (cI, 7, .inl f09))] := hD
  obtain rfl : r6 = (-2) := hw8
  refine lv_icmp_eq (tgt := 2226) hx hb dL_law_697 (by decide) (fun c10 => ?_) (fun c10 => absurd (by decide) c10)
  refine lv_iinc (v := 6) (lv' := [(3, .int 6), (2, .ref h1), (1, .ref h0), (0, .ref sb)]) hx hb dL_law_2226 hl (k := 0) rfl (by decide) (by decide) rfl (fun ls hl => ?_)
  refine lv_goto (tgt := 18) hx hb dL_law_2229 (by decide) ?_
  exact law_exit hL6 C0 hAe hS ls (lv_sub hl [3, 0] rfl) (by decide) (by decide)
set_option maxHeartbeats 4000000 in
set_option maxRecDepth 100000 in
theorem law_14 {p : Program} {e : Env} {s : State} {m : MethodId} {below : List Frame} {meth : Method} {c : Code} {l : Launch} {sb L : Nat} {xs : Nat → Int32} {A : Nat → Prop} {G : va_G} {cI cJ cZ cB cQ : ClassId} (h0 : Nat) (b : Nat → Nat) (br : Nat → Nat) (bt : Nat → Nat) (bi : Nat → Nat) (bc : Nat → Nat) (bn : Nat → Nat) (bs : Nat → Nat) (be : Nat → Nat) (bw : Nat → Nat) (h1 : Nat) (bm : Nat → Nat) {H : Heap} {locs : List Loc} (hL : L = 6) (C0 : lw_At p s m meth c sb L xs) (hAe : A = fun q => s.heap.size ≤ q) (hK : va_K G vwCl (TY cI cJ cZ cB cQ) s) (hZ : nz s) (hP : va_P G vwCl (wX cI cJ cZ cB cQ h0 b br bt bi bc bn bs be bw ++ wM cI cJ cZ cB cQ h1 bm) H) (hD : va_D A (wX cI cJ cZ cB cQ h0 b br bt bi bc bn bs be bw ++ wM cI cJ cZ cB cQ h1 bm)) (hS : va_S A s.heap H locs) (ls : Array Slot) (hl : lv_has ls 4 [(3, .int 0), (2, .ref h1), (1, .ref h0), (0, .ref sb)]) (v : Int32) (hv : v.toInt = 14) : W p l e room_1 s m #[Value.ref sb] below meth c H locs 88 8166 (lw_Z below #[Value.ref sb] s) (F0 m 33 ls [.int v]) := by
  have hL6 : L ≤ 6 := by omega
  obtain ⟨hx, hb, hr, hml, hown, hts0, hX, hbl, hlocks, hgv⟩ := id C0
  have hown : s.vm.findClass RL = some m.cls := hown
  have hts : ∀ q ∈ GW, q.before #[Value.ref sb] s = true := fun q h => hts0 q (List.mem_filter.mp h).1
  have hA : ∀ q : Nat, s.heap.size ≤ q → A q := fun q h => by rw [hAe]; exact h
  have hbA : ¬ A sb := by rw [hAe]; exact Nat.not_le.mpr hbl
  have hLT : (Int32.ofNat L).toInt = (L : Int) := nI_toInt (by omega)
  have hLi : (L : Int) = 6 := by omega
  refine lv_tableIn (off := 669) (tgt := 702) hx hb dL_law_33 (by rw [hv]; decide) (by rw [hv]; decide) (by rw [hv]; rfl) (by decide) ?_
  have hP : va_P G vwCl [(h0, oX9 b), (b 1, oX0 bc 0 0 0 0 0 0 0 0 0 0), (h1, oX10 bm 0 0 0 0 0 0 0 0 (-1) 0 0 0 0 0 0 0 0 0), (bm 1, .inl (cI, 149, .inl (fun _ => 0))), (bm 15, .inl (cZ, 80, .inl (fun _ => 0))), (bm 16, .inl (cI, 7, .inl (fun _ => 0))), (bm 21, .inl (cZ, 80, .inl (fun _ => 0))), (bm 24, .inl (cI, 80, .inl (fun _ => 0))), (bm 25, .inl (cI, 6, .inl (fun _ => 0))), (bm 29, .inl (cI, 6, .inl (fun _ => 0))), (bm 30, .inl (cZ, 1040, .inl (fun _ => 0))), (bm 31, .inl (cI, 1040, .inl (fun _ => 0))), (bm 32, .inl (cI, 78, .inl (fun _ => 0))), (bm 27, .inl (cI, 7, .inl (fun _ => 0)))] H := hP.sub [0, 14, 59, 60, 66, 67, 68, 71, 72, 76, 77, 78, 79, 74] rfl
  have hD : va_D A [(h0, oX9 b), (b 1, oX0 bc 0 0 0 0 0 0 0 0 0 0), (h1, oX10 bm 0 0 0 0 0 0 0 0 (-1) 0 0 0 0 0 0 0 0 0), (bm 1, .inl (cI, 149, .inl (fun _ => 0))), (bm 15, .inl (cZ, 80, .inl (fun _ => 0))), (bm 16, .inl (cI, 7, .inl (fun _ => 0))), (bm 21, .inl (cZ, 80, .inl (fun _ => 0))), (bm 24, .inl (cI, 80, .inl (fun _ => 0))), (bm 25, .inl (cI, 6, .inl (fun _ => 0))), (bm 29, .inl (cI, 6, .inl (fun _ => 0))), (bm 30, .inl (cZ, 1040, .inl (fun _ => 0))), (bm 31, .inl (cI, 1040, .inl (fun _ => 0))), (bm 32, .inl (cI, 78, .inl (fun _ => 0))), (bm 27, .inl (cI, 7, .inl (fun _ => 0)))] := hD.sub [0, 14, 59, 60, 66, 67, 68, 71, 72, 76, 77, 78, 79, 74] rfl rfl
  refine lv_aload_n hx hb dL_law_702 rfl (lv_at hl 2 rfl) ?_
  refine lv_aload_n hx hb dL_law_703 rfl (lv_at hl 3 rfl) ?_
  refine lv_iload_n hx hb dL_law_704 rfl (lv_at hl 0 rfl) ?_
  refine lv_iconst (v := 1) hx hb dL_law_705 (by decide) ?_
  refine lv_iadd hx hb dL_law_706 ?_
  refine lv_topi (fun v1 ev1 => ?_)
  obtain rfl : v1 = 1 := ev1.trans (by decide)
  refine va_sld hx hb hX hbl hbA hS (ix_in ki_1 (by omega) (by omega)) dL_law_707 ?_
  refine W.eq (g2 := F0 m 708 ls [.int (xs 1), .ref h0]) rfl ?_
  refine lv_aload_n hx hb dL_law_708 rfl (lv_at hl 3 rfl) ?_
  refine lv_iload_n hx hb dL_law_709 rfl (lv_at hl 0 rfl) ?_
  refine lv_iconst (v := 2) hx hb dL_law_710 (by decide) ?_
  refine lv_iadd hx hb dL_law_711 ?_
  refine lv_topi (fun v2 ev2 => ?_)
  obtain rfl : v2 = 2 := ev2.trans (by decide)
  refine va_sld hx hb hX hbl hbA hS (ix_in ki_2 (by omega) (by omega)) dL_law_712 ?_
  refine W.eq (g2 := F0 m 713 ls [.int (xs 2), .int (xs 1), .ref h0]) rfl ?_
  refine k_i (wc := [(h0, oX9 b), (b 1, oX0 bc 0 0 0 0 0 0 0 0 0 0)]) (wr := [(h1, oX10 bm 0 0 0 0 0 0 0 0 (-1) 0 0 0 0 0 0 0 0 0), (bm 1, .inl (cI, 149, .inl (fun _ => 0))), (bm 15, .inl (cZ, 80, .inl (fun _ => 0))), (bm 16, .inl (cI, 7, .inl (fun _ => 0))), (bm 21, .inl (cZ, 80, .inl (fun _ => 0))), (bm 24, .inl (cI, 80, .inl (fun _ => 0))), (bm 25, .inl (cI, 6, .inl (fun _ => 0))), (bm 29, .inl (cI, 6, .inl (fun _ => 0))), (bm 30, .inl (cZ, 1040, .inl (fun _ => 0))), (bm 31, .inl (cI, 1040, .inl (fun _ => 0))), (bm 32, .inl (cI, 78, .inl (fun _ => 0))), (bm 27, .inl (cI, 7, .inl (fun _ => 0)))]) hP hD hS hA [0, 1] [2, 3, 4, 5, 6, 7, 8, 9, 10, 11, 12, 13] rfl rfl rfl (by decide) (va_runV (As := [.int (xs 1), .int (xs 2)]) (rest := []) ⟨hx, hb, hml, hown, hts⟩ (f_X9_visits l G cI cJ cZ cB cQ _ h0 b bc (xs 1) (xs 2)) (cwV 2 hts (gV w_728 w_729 w_730 w_1 w_731) rfl rfl rfl ⟨rfl, hd_X9_visits⟩ ⟨Nat.le_of_ble_eq_true rfl, Nat.le_of_ble_eq_true rfl⟩) (mV hK hZ hP hD [0, 1] rfl rfl [.int (xs 1), .int (xs 2)] 0 9 rfl rfl) rfl rfl hl.1 rfl (lv_room (Nat.le_of_ble_eq_true rfl)) dL_law_713 ⟨Nat.le_of_ble_eq_true rfl, Nat.le_of_ble_eq_true rfl⟩) (fun r3 u4 H locs hw5 hP hD hS => ?_)
  try dsimp only at hw5
  have hP : va_P G vwCl [(h1, oX10 bm 0 0 0 0 0 0 0 0 (-1) 0 0 0 0 0 0 0 0 0), (bm 1, .inl (cI, 149, .inl (fun _ => 0))), (bm 15, .inl (cZ, 80, .inl (fun _ => 0))), (bm 16, .inl (cI, 7, .inl (fun _ => 0))), (bm 21, .inl (cZ, 80, .inl (fun _ => 0))), (bm 24, .inl (cI, 80, .inl (fun _ => 0))), (bm 25, .inl (cI, 6, .inl (fun _ => 0))), (bm 29, .inl (cI, 6, .inl (fun _ => 0))), (bm 30, .inl (cZ, 1040, .inl (fun _ => 0))), (bm 31, .inl (cI, 1040, .inl (fun _ => 0))), (bm 32, .inl (cI, 78, .inl (fun _ => 0))), (bm 27, .inl (cI, 7, .inl (fun _ => 0))), (h0, oX9 b), (b 1, oX0 bc 0 0 0 0 0 0 0 0 0 0)] H := hP
  have hD : va_D A [(h1, oX10 bm 0 0 0 0 0 0 0 0 (-1) 0 0 0 0 0 0 0 0 0), (bm 1, .inl (cI, 149, .inl (fun _ => 0))), (bm 15, .inl (cZ, 80, .inl (fun _ => 0))), (bm 16, .inl (cI, 7, .inl (fun _ => 0))), (bm 21, .inl (cZ, 80, .inl (fun _ => 0))), (bm 24, .inl (cI, 80, .inl (fun _ => 0))), (bm 25, .inl (cI, 6, .inl (fun _ => 0))), (bm 29, .inl (cI, 6, .inl (fun _ => 0))), (bm 30, .inl (cZ, 1040, .inl (fun _ => 0))), (bm 31, .inl (cI, 1040, .inl (fun _ => 0))), (bm 32, .inl (cI, 78, .inl (fun _ => 0))), (bm 27, .inl (cI, 7, .inl (fun _ => 0))), (h0, oX9 b), (b 1, oX0 bc 0 0 0 0 0 0 0 0 0 0)] := hD
  obtain rfl : r3 = (-2) := hw5
  refine lv_aload_n hx hb dL_law_716 rfl (lv_at hl 1 rfl) ?_
  refine lv_aload_n hx hb dL_law_717 rfl (lv_at hl 3 rfl) ?_
  refine lv_iload_n hx hb dL_law_718 rfl (lv_at hl 0 rfl) ?_
  refine lv_iconst (v := 1) hx hb dL_law_719 (by decide) ?_
  refine lv_iadd hx hb dL_law_720 ?_
  refine lv_topi (fun v6 ev6 => ?_)
  obtain rfl : v6 = 1 := ev6.trans (by decide)
  refine va_sld hx hb hX hbl hbA hS (ix_in ki_1 (by omega) (by omega)) dL_law_721 ?_
  refine W.eq (g2 := F0 m 722 ls [.int (xs 1), .ref h1, .int (-2)]) rfl ?_
  refine lv_aload_n hx hb dL_law_722 rfl (lv_at hl 3 rfl) ?_
  refine lv_iload_n hx hb dL_law_723 rfl (lv_at hl 0 rfl) ?_
  refine lv_iconst (v := 2) hx hb dL_law_724 (by decide) ?_
  refine lv_iadd hx hb dL_law_725 ?_
  refine lv_topi (fun v7 ev7 => ?_)
  obtain rfl : v7 = 2 := ev7.trans (by decide)
  refine va_sld hx hb hX hbl hbA hS (ix_in ki_2 (by omega) (by omega)) dL_law_726 ?_
  refine W.eq (g2 := F0 m 727 ls [.int (xs 2), .int (xs 1), .ref h1, .int (-2)]) rfl ?_
  refine k_i (wc := [(h1, oX10 bm 0 0 0 0 0 0 0 0 (-1) 0 0 0 0 0 0 0 0 0), (bm 1, .inl (cI, 149, .inl (fun _ => 0))), (bm 15, .inl (cZ, 80, .inl (fun _ => 0))), (bm 16, .inl (cI, 7, .inl (fun _ => 0))), (bm 21, .inl (cZ, 80, .inl (fun _ => 0))), (bm 24, .inl (cI, 80, .inl (fun _ => 0))), (bm 25, .inl (cI, 6, .inl (fun _ => 0))), (bm 29, .inl (cI, 6, .inl (fun _ => 0))), (bm 30, .inl (cZ, 1040, .inl (fun _ => 0))), (bm 31, .inl (cI, 1040, .inl (fun _ => 0))), (bm 32, .inl (cI, 78, .inl (fun _ => 0))), (bm 27, .inl (cI, 7, .inl (fun _ => 0)))]) (wr := [(h0, oX9 b), (b 1, oX0 bc 0 0 0 0 0 0 0 0 0 0)]) hP hD hS hA [0, 1, 2, 3, 4, 5, 6, 7, 8, 9, 10, 11] [12, 13] rfl rfl rfl (by decide) (va_runV (As := [.int (xs 1), .int (xs 2)]) (rest := [.int (-2)]) ⟨hx, hb, hml, hown, hts⟩ (f_X10_visits l G cI cJ cZ cB cQ _ h1 bm (xs 1) (xs 2)) (cwV 2 hts (gV w_1612 w_1613 w_1614 w_11 w_1615) rfl rfl rfl ⟨rfl, hd_X10_visits⟩ ⟨Nat.le_of_ble_eq_true rfl, Nat.le_of_ble_eq_true rfl⟩) (mV hK hZ hP hD [0, 1, 2, 3, 4, 5, 6, 7, 8, 9, 10, 11] rfl rfl [.int (xs 1), .int (xs 2)] 0 10 rfl rfl) rfl rfl hl.1 rfl (lv_room (Nat.le_of_ble_eq_true rfl)) dL_law_727 ⟨Nat.le_of_ble_eq_true rfl, Nat.le_of_ble_eq_true rfl⟩) (fun r8 u9 H locs hw10 hP hD hS => ?_)
  obtain ⟨f011, rfl⟩ : ∃ z, z = u9 := ⟨_, rfl⟩
  try dsimp only at hw10
  have hP : va_P G vwCl [(h0, oX9 b), (b 1, oX0 bc 0 0 0 0 0 0 0 0 0 0), (h1, oX10 bm 0 0 0 0 0 0 0 0 (-1) 0 0 (-1) 0 0 0 0 0 0), (bm 1, .inl (cI, 149, .inl (fun _ => 0))), (bm 15, .inl (cZ, 80, .inl (fun _ => 0))), (bm 16, .inl (cI, 7, .inl (fun _ => 0))), (bm 21, .inl (cZ, 80, .inl (fun _ => 0))), (bm 24, .inl (cI, 80, .inl (fun _ => 0))), (bm 25, .inl (cI, 6, .inl (fun _ => 0))), (bm 29, .inl (cI, 6, .inl (fun _ => 0))), (bm 30, .inl (cZ, 1040, .inl (fun _ => 0))), (bm 31, .inl (cI, 1040, .inl (fun _ => 0))), (bm 32, .inl (cI, 78, .inl (fun _ => 0))), (bm 27, .inl (cI, 7, .inl f011))] H := hP
  have hD : va_D A [(h0, oX9 b), (b 1, oX0 bc 0 0 0 0 0 0 0 0 0 0), (h1, oX10 bm 0 0 0 0 0 0 0 0 (-1) 0 0 (-1) 0 0 0 0 0 0), (bm 1, .inl (cI, 149, .inl (fun _ => 0))), (bm 15, .inl (cZ, 80, .inl (fun _ => 0))), (bm 16, .inl (cI, 7, .inl (fun _ => 0))), (bm 21, .inl (cZ, 80, .inl (fun _ => 0))), (bm 24, .inl (cI, 80, .inl (fun _ => 0))), (bm 25, .inl (cI, 6, .inl (fun _ => 0))), (bm 29, .inl (cI, 6, .inl (fun _ => 0))), (bm 30, .inl (cZ, 1040, .inl (fun _ => 0))), (bm 31, .inl (cI, 1040, .inl (fun _ => 0))), (bm 32, .inl (cI, 78, .inl (fun _ => 0))), (bm 27, .inl (cI, 7, .inl f011))] := hD
  obtain rfl : r8 = (-2) := hw10
  refine lv_icmp_eq (tgt := 2226) hx hb dL_law_730 (by decide) (fun c12 => ?_) (fun c12 => absurd (by decide) c12)
  refine lv_iinc (v := 6) (lv' := [(3, .int 6), (2, .ref h1), (1, .ref h0), (0, .ref sb)]) hx hb dL_law_2226 hl (k := 0) rfl (by decide) (by decide) rfl (fun ls hl => ?_)
  refine lv_goto (tgt := 18) hx hb dL_law_2229 (by decide) ?_
  exact law_exit hL6 C0 hAe hS ls (lv_sub hl [3, 0] rfl) (by decide) (by decide)
set_option maxHeartbeats 4000000 in
set_option maxRecDepth 100000 in
theorem law_15 {p : Program} {e : Env} {s : State} {m : MethodId} {below : List Frame} {meth : Method} {c : Code} {l : Launch} {sb L : Nat} {xs : Nat → Int32} {A : Nat → Prop} {G : va_G} {cI cJ cZ cB cQ : ClassId} (h0 : Nat) (b : Nat → Nat) (br : Nat → Nat) (bt : Nat → Nat) (bi : Nat → Nat) (bc : Nat → Nat) (bn : Nat → Nat) (bs : Nat → Nat) (be : Nat → Nat) (bw : Nat → Nat) (h1 : Nat) (bm : Nat → Nat) {H : Heap} {locs : List Loc} (hL : L = 6) (C0 : lw_At p s m meth c sb L xs) (hAe : A = fun q => s.heap.size ≤ q) (hK : va_K G vwCl (TY cI cJ cZ cB cQ) s) (hZ : nz s) (hP : va_P G vwCl (wX cI cJ cZ cB cQ h0 b br bt bi bc bn bs be bw ++ wM cI cJ cZ cB cQ h1 bm) H) (hD : va_D A (wX cI cJ cZ cB cQ h0 b br bt bi bc bn bs be bw ++ wM cI cJ cZ cB cQ h1 bm)) (hS : va_S A s.heap H locs) (ls : Array Slot) (hl : lv_has ls 4 [(3, .int 0), (2, .ref h1), (1, .ref h0), (0, .ref sb)]) (v : Int32) (hv : v.toInt = 15) : W p l e room_1 s m #[Value.ref sb] below meth c H locs 88 8166 (lw_Z below #[Value.ref sb] s) (F0 m 33 ls [.int v]) := by
  have hL6 : L ≤ 6 := by omega
  obtain ⟨hx, hb, hr, hml, hown, hts0, hX, hbl, hlocks, hgv⟩ := id C0
  have hown : s.vm.findClass RL = some m.cls := hown
  have hts : ∀ q ∈ GW, q.before #[Value.ref sb] s = true := fun q h => hts0 q (List.mem_filter.mp h).1
  have hA : ∀ q : Nat, s.heap.size ≤ q → A q := fun q h => by rw [hAe]; exact h
  have hbA : ¬ A sb := by rw [hAe]; exact Nat.not_le.mpr hbl
  have hLT : (Int32.ofNat L).toInt = (L : Int) := nI_toInt (by omega)
  have hLi : (L : Int) = 6 := by omega
  refine lv_tableIn (off := 702) (tgt := 735) hx hb dL_law_33 (by rw [hv]; decide) (by rw [hv]; decide) (by rw [hv]; rfl) (by decide) ?_
  have hP : va_P G vwCl [(h0, oX9 b), (b 1, oX0 bc 0 0 0 0 0 0 0 0 0 0), (h1, oX10 bm 0 0 0 0 0 0 0 0 (-1) 0 0 0 0 0 0 0 0 0), (bm 1, .inl (cI, 149, .inl (fun _ => 0))), (bm 15, .inl (cZ, 80, .inl (fun _ => 0))), (bm 16, .inl (cI, 7, .inl (fun _ => 0))), (bm 21, .inl (cZ, 80, .inl (fun _ => 0))), (bm 24, .inl (cI, 80, .inl (fun _ => 0))), (bm 25, .inl (cI, 6, .inl (fun _ => 0))), (bm 29, .inl (cI, 6, .inl (fun _ => 0))), (bm 30, .inl (cZ, 1040, .inl (fun _ => 0))), (bm 31, .inl (cI, 1040, .inl (fun _ => 0))), (bm 32, .inl (cI, 78, .inl (fun _ => 0))), (bm 27, .inl (cI, 7, .inl (fun _ => 0)))] H := hP.sub [0, 14, 59, 60, 66, 67, 68, 71, 72, 76, 77, 78, 79, 74] rfl
  have hD : va_D A [(h0, oX9 b), (b 1, oX0 bc 0 0 0 0 0 0 0 0 0 0), (h1, oX10 bm 0 0 0 0 0 0 0 0 (-1) 0 0 0 0 0 0 0 0 0), (bm 1, .inl (cI, 149, .inl (fun _ => 0))), (bm 15, .inl (cZ, 80, .inl (fun _ => 0))), (bm 16, .inl (cI, 7, .inl (fun _ => 0))), (bm 21, .inl (cZ, 80, .inl (fun _ => 0))), (bm 24, .inl (cI, 80, .inl (fun _ => 0))), (bm 25, .inl (cI, 6, .inl (fun _ => 0))), (bm 29, .inl (cI, 6, .inl (fun _ => 0))), (bm 30, .inl (cZ, 1040, .inl (fun _ => 0))), (bm 31, .inl (cI, 1040, .inl (fun _ => 0))), (bm 32, .inl (cI, 78, .inl (fun _ => 0))), (bm 27, .inl (cI, 7, .inl (fun _ => 0)))] := hD.sub [0, 14, 59, 60, 66, 67, 68, 71, 72, 76, 77, 78, 79, 74] rfl rfl
  refine lv_aload_n hx hb dL_law_735 rfl (lv_at hl 2 rfl) ?_
  refine lv_aload_n hx hb dL_law_736 rfl (lv_at hl 3 rfl) ?_
  refine lv_iload_n hx hb dL_law_737 rfl (lv_at hl 0 rfl) ?_
  refine lv_iconst (v := 1) hx hb dL_law_738 (by decide) ?_
  refine lv_iadd hx hb dL_law_739 ?_
  refine lv_topi (fun v1 ev1 => ?_)
  obtain rfl : v1 = 1 := ev1.trans (by decide)
  refine va_sld hx hb hX hbl hbA hS (ix_in ki_1 (by omega) (by omega)) dL_law_740 ?_
  refine W.eq (g2 := F0 m 741 ls [.int (xs 1), .ref h0]) rfl ?_
  refine k_i (wc := [(h0, oX9 b), (b 1, oX0 bc 0 0 0 0 0 0 0 0 0 0)]) (wr := [(h1, oX10 bm 0 0 0 0 0 0 0 0 (-1) 0 0 0 0 0 0 0 0 0), (bm 1, .inl (cI, 149, .inl (fun _ => 0))), (bm 15, .inl (cZ, 80, .inl (fun _ => 0))), (bm 16, .inl (cI, 7, .inl (fun _ => 0))), (bm 21, .inl (cZ, 80, .inl (fun _ => 0))), (bm 24, .inl (cI, 80, .inl (fun _ => 0))), (bm 25, .inl (cI, 6, .inl (fun _ => 0))), (bm 29, .inl (cI, 6, .inl (fun _ => 0))), (bm 30, .inl (cZ, 1040, .inl (fun _ => 0))), (bm 31, .inl (cI, 1040, .inl (fun _ => 0))), (bm 32, .inl (cI, 78, .inl (fun _ => 0))), (bm 27, .inl (cI, 7, .inl (fun _ => 0)))]) hP hD hS hA [0, 1] [2, 3, 4, 5, 6, 7, 8, 9, 10, 11, 12, 13] rfl rfl rfl (by decide) (va_runV (As := [.int (xs 1)]) (rest := []) ⟨hx, hb, hml, hown, hts⟩ (f_X9_straight l G cI cJ cZ cB cQ _ h0 b bc (xs 1)) (cwV 1 hts (gV w_732 w_733 w_734 w_1 w_735) rfl rfl rfl ⟨rfl, hd_X9_straight⟩ ⟨Nat.le_of_ble_eq_true rfl, Nat.le_of_ble_eq_true rfl⟩) (mV hK hZ hP hD [0, 1] rfl rfl [.int (xs 1)] 0 9 rfl rfl) rfl rfl hl.1 rfl (lv_room (Nat.le_of_ble_eq_true rfl)) dL_law_741 ⟨Nat.le_of_ble_eq_true rfl, Nat.le_of_ble_eq_true rfl⟩) (fun r2 u3 H locs hw4 hP hD hS => ?_)
  try dsimp only at hw4
  have hP : va_P G vwCl [(h1, oX10 bm 0 0 0 0 0 0 0 0 (-1) 0 0 0 0 0 0 0 0 0), (bm 1, .inl (cI, 149, .inl (fun _ => 0))), (bm 15, .inl (cZ, 80, .inl (fun _ => 0))), (bm 16, .inl (cI, 7, .inl (fun _ => 0))), (bm 21, .inl (cZ, 80, .inl (fun _ => 0))), (bm 24, .inl (cI, 80, .inl (fun _ => 0))), (bm 25, .inl (cI, 6, .inl (fun _ => 0))), (bm 29, .inl (cI, 6, .inl (fun _ => 0))), (bm 30, .inl (cZ, 1040, .inl (fun _ => 0))), (bm 31, .inl (cI, 1040, .inl (fun _ => 0))), (bm 32, .inl (cI, 78, .inl (fun _ => 0))), (bm 27, .inl (cI, 7, .inl (fun _ => 0))), (h0, oX9 b), (b 1, oX0 bc 0 0 0 0 0 0 0 0 0 0)] H := hP
  have hD : va_D A [(h1, oX10 bm 0 0 0 0 0 0 0 0 (-1) 0 0 0 0 0 0 0 0 0), (bm 1, .inl (cI, 149, .inl (fun _ => 0))), (bm 15, .inl (cZ, 80, .inl (fun _ => 0))), (bm 16, .inl (cI, 7, .inl (fun _ => 0))), (bm 21, .inl (cZ, 80, .inl (fun _ => 0))), (bm 24, .inl (cI, 80, .inl (fun _ => 0))), (bm 25, .inl (cI, 6, .inl (fun _ => 0))), (bm 29, .inl (cI, 6, .inl (fun _ => 0))), (bm 30, .inl (cZ, 1040, .inl (fun _ => 0))), (bm 31, .inl (cI, 1040, .inl (fun _ => 0))), (bm 32, .inl (cI, 78, .inl (fun _ => 0))), (bm 27, .inl (cI, 7, .inl (fun _ => 0))), (h0, oX9 b), (b 1, oX0 bc 0 0 0 0 0 0 0 0 0 0)] := hD
  obtain rfl : r2 = (-2) := hw4
  refine lv_aload_n hx hb dL_law_744 rfl (lv_at hl 1 rfl) ?_
  refine lv_aload_n hx hb dL_law_745 rfl (lv_at hl 3 rfl) ?_
  refine lv_iload_n hx hb dL_law_746 rfl (lv_at hl 0 rfl) ?_
  refine lv_iconst (v := 1) hx hb dL_law_747 (by decide) ?_
  refine lv_iadd hx hb dL_law_748 ?_
  refine lv_topi (fun v5 ev5 => ?_)
  obtain rfl : v5 = 1 := ev5.trans (by decide)
  refine va_sld hx hb hX hbl hbA hS (ix_in ki_1 (by omega) (by omega)) dL_law_749 ?_
  refine W.eq (g2 := F0 m 750 ls [.int (xs 1), .ref h1, .int (-2)]) rfl ?_
  refine k_i (wc := [(h1, oX10 bm 0 0 0 0 0 0 0 0 (-1) 0 0 0 0 0 0 0 0 0), (bm 1, .inl (cI, 149, .inl (fun _ => 0))), (bm 15, .inl (cZ, 80, .inl (fun _ => 0))), (bm 16, .inl (cI, 7, .inl (fun _ => 0))), (bm 21, .inl (cZ, 80, .inl (fun _ => 0))), (bm 24, .inl (cI, 80, .inl (fun _ => 0))), (bm 25, .inl (cI, 6, .inl (fun _ => 0))), (bm 29, .inl (cI, 6, .inl (fun _ => 0))), (bm 30, .inl (cZ, 1040, .inl (fun _ => 0))), (bm 31, .inl (cI, 1040, .inl (fun _ => 0))), (bm 32, .inl (cI, 78, .inl (fun _ => 0))), (bm 27, .inl (cI, 7, .inl (fun _ => 0)))]) (wr := [(h0, oX9 b), (b 1, oX0 bc 0 0 0 0 0 0 0 0 0 0)]) hP hD hS hA [0, 1, 2, 3, 4, 5, 6, 7, 8, 9, 10, 11] [12, 13] rfl rfl rfl (by decide) (va_runV (As := [.int (xs 1)]) (rest := [.int (-2)]) ⟨hx, hb, hml, hown, hts⟩ (f_X10_straight l G cI cJ cZ cB cQ _ h1 bm (xs 1)) (cwV 1 hts (gV w_1628 w_1629 w_1630 w_11 w_1631) rfl rfl rfl ⟨rfl, hd_X10_straight⟩ ⟨Nat.le_of_ble_eq_true rfl, Nat.le_of_ble_eq_true rfl⟩) (mV hK hZ hP hD [0, 1, 2, 3, 4, 5, 6, 7, 8, 9, 10, 11] rfl rfl [.int (xs 1)] 0 10 rfl rfl) rfl rfl hl.1 rfl (lv_room (Nat.le_of_ble_eq_true rfl)) dL_law_750 ⟨Nat.le_of_ble_eq_true rfl, Nat.le_of_ble_eq_true rfl⟩) (fun r6 u7 H locs hw8 hP hD hS => ?_)
  obtain ⟨f09, rfl⟩ : ∃ z, z = u7 := ⟨_, rfl⟩
  try dsimp only at hw8
  have hP : va_P G vwCl [(h0, oX9 b), (b 1, oX0 bc 0 0 0 0 0 0 0 0 0 0), (h1, oX10 bm 0 0 0 0 0 0 0 0 (-1) 0 0 (-1) 0 0 0 0 0 0), (bm 1, .inl (cI, 149, .inl (fun _ => 0))), (bm 15, .inl (cZ, 80, .inl (fun _ => 0))), (bm 16, .inl (cI, 7, .inl (fun _ => 0))), (bm 21, .inl (cZ, 80, .inl (fun _ => 0))), (bm 24, .inl (cI, 80, .inl (fun _ => 0))), (bm 25, .inl (cI, 6, .inl (fun _ => 0))), (bm 29, .inl (cI, 6, .inl (fun _ => 0))), (bm 30, .inl (cZ, 1040, .inl (fun _ => 0))), (bm 31, .inl (cI, 1040, .inl (fun _ => 0))), (bm 32, .inl (cI, 78, .inl (fun _ => 0))), (bm 27, .inl (cI, 7, .inl f09))] H := hP
  have hD : va_D A [(h0, oX9 b), (b 1, oX0 bc 0 0 0 0 0 0 0 0 0 0), (h1, oX10 bm 0 0 0 0 0 0 0 0 (-1) 0 0 (-1) 0 0 0 0 0 0), (bm 1, .inl (cI, 149, .inl (fun _ => 0))), (bm 15, .inl (cZ, 80, .inl (fun _ => 0))), (bm 16, .inl (cI, 7, .inl (fun _ => 0))), (bm 21, .inl (cZ, 80, .inl (fun _ => 0))), (bm 24, .inl (cI, 80, .inl (fun _ => 0))), (bm 25, .inl (cI, 6, .inl (fun _ => 0))), (bm 29, .inl (cI, 6, .inl (fun _ => 0))), (bm 30, .inl (cZ, 1040, .inl (fun _ => 0))), (bm 31, .inl (cI, 1040, .inl (fun _ => 0))), (bm 32, .inl (cI, 78, .inl (fun _ => 0))), (bm 27, .inl (cI, 7, .inl f09))] := hD
  obtain rfl : r6 = (-2) := hw8
  refine lv_icmp_eq (tgt := 2226) hx hb dL_law_753 (by decide) (fun c10 => ?_) (fun c10 => absurd (by decide) c10)
  refine lv_iinc (v := 6) (lv' := [(3, .int 6), (2, .ref h1), (1, .ref h0), (0, .ref sb)]) hx hb dL_law_2226 hl (k := 0) rfl (by decide) (by decide) rfl (fun ls hl => ?_)
  refine lv_goto (tgt := 18) hx hb dL_law_2229 (by decide) ?_
  exact law_exit hL6 C0 hAe hS ls (lv_sub hl [3, 0] rfl) (by decide) (by decide)
set_option maxHeartbeats 4000000 in
set_option maxRecDepth 100000 in
theorem law_16 {p : Program} {e : Env} {s : State} {m : MethodId} {below : List Frame} {meth : Method} {c : Code} {l : Launch} {sb L : Nat} {xs : Nat → Int32} {A : Nat → Prop} {G : va_G} {cI cJ cZ cB cQ : ClassId} (h0 : Nat) (b : Nat → Nat) (br : Nat → Nat) (bt : Nat → Nat) (bi : Nat → Nat) (bc : Nat → Nat) (bn : Nat → Nat) (bs : Nat → Nat) (be : Nat → Nat) (bw : Nat → Nat) (h1 : Nat) (bm : Nat → Nat) {H : Heap} {locs : List Loc} (hL : L = 6) (C0 : lw_At p s m meth c sb L xs) (hAe : A = fun q => s.heap.size ≤ q) (hK : va_K G vwCl (TY cI cJ cZ cB cQ) s) (hZ : nz s) (hP : va_P G vwCl (wX cI cJ cZ cB cQ h0 b br bt bi bc bn bs be bw ++ wM cI cJ cZ cB cQ h1 bm) H) (hD : va_D A (wX cI cJ cZ cB cQ h0 b br bt bi bc bn bs be bw ++ wM cI cJ cZ cB cQ h1 bm)) (hS : va_S A s.heap H locs) (ls : Array Slot) (hl : lv_has ls 4 [(3, .int 0), (2, .ref h1), (1, .ref h0), (0, .ref sb)]) (v : Int32) (hv : v.toInt = 16) : W p l e room_1 s m #[Value.ref sb] below meth c H locs 88 8166 (lw_Z below #[Value.ref sb] s) (F0 m 33 ls [.int v]) := by
  have hL6 : L ≤ 6 := by omega
  obtain ⟨hx, hb, hr, hml, hown, hts0, hX, hbl, hlocks, hgv⟩ := id C0
  have hown : s.vm.findClass RL = some m.cls := hown
  have hts : ∀ q ∈ GW, q.before #[Value.ref sb] s = true := fun q h => hts0 q (List.mem_filter.mp h).1
  have hA : ∀ q : Nat, s.heap.size ≤ q → A q := fun q h => by rw [hAe]; exact h
  have hbA : ¬ A sb := by rw [hAe]; exact Nat.not_le.mpr hbl
  have hLT : (Int32.ofNat L).toInt = (L : Int) := nI_toInt (by omega)
  have hLi : (L : Int) = 6 := by omega
  refine lv_tableIn (off := 725) (tgt := 758) hx hb dL_law_33 (by rw [hv]; decide) (by rw [hv]; decide) (by rw [hv]; rfl) (by decide) ?_
  have hP : va_P G vwCl [(h0, oX9 b), (b 1, oX0 bc 0 0 0 0 0 0 0 0 0 0), (h1, oX10 bm 0 0 0 0 0 0 0 0 (-1) 0 0 0 0 0 0 0 0 0), (bm 1, .inl (cI, 149, .inl (fun _ => 0))), (bm 15, .inl (cZ, 80, .inl (fun _ => 0))), (bm 16, .inl (cI, 7, .inl (fun _ => 0))), (bm 21, .inl (cZ, 80, .inl (fun _ => 0))), (bm 24, .inl (cI, 80, .inl (fun _ => 0))), (bm 25, .inl (cI, 6, .inl (fun _ => 0))), (bm 29, .inl (cI, 6, .inl (fun _ => 0))), (bm 30, .inl (cZ, 1040, .inl (fun _ => 0))), (bm 31, .inl (cI, 1040, .inl (fun _ => 0))), (bm 32, .inl (cI, 78, .inl (fun _ => 0))), (bm 27, .inl (cI, 7, .inl (fun _ => 0)))] H := hP.sub [0, 14, 59, 60, 66, 67, 68, 71, 72, 76, 77, 78, 79, 74] rfl
  have hD : va_D A [(h0, oX9 b), (b 1, oX0 bc 0 0 0 0 0 0 0 0 0 0), (h1, oX10 bm 0 0 0 0 0 0 0 0 (-1) 0 0 0 0 0 0 0 0 0), (bm 1, .inl (cI, 149, .inl (fun _ => 0))), (bm 15, .inl (cZ, 80, .inl (fun _ => 0))), (bm 16, .inl (cI, 7, .inl (fun _ => 0))), (bm 21, .inl (cZ, 80, .inl (fun _ => 0))), (bm 24, .inl (cI, 80, .inl (fun _ => 0))), (bm 25, .inl (cI, 6, .inl (fun _ => 0))), (bm 29, .inl (cI, 6, .inl (fun _ => 0))), (bm 30, .inl (cZ, 1040, .inl (fun _ => 0))), (bm 31, .inl (cI, 1040, .inl (fun _ => 0))), (bm 32, .inl (cI, 78, .inl (fun _ => 0))), (bm 27, .inl (cI, 7, .inl (fun _ => 0)))] := hD.sub [0, 14, 59, 60, 66, 67, 68, 71, 72, 76, 77, 78, 79, 74] rfl rfl
  refine lv_aload_n hx hb dL_law_758 rfl (lv_at hl 2 rfl) ?_
  refine lv_aload_n hx hb dL_law_759 rfl (lv_at hl 3 rfl) ?_
  refine lv_iload_n hx hb dL_law_760 rfl (lv_at hl 0 rfl) ?_
  refine lv_iconst (v := 1) hx hb dL_law_761 (by decide) ?_
  refine lv_iadd hx hb dL_law_762 ?_
  refine lv_topi (fun v1 ev1 => ?_)
  obtain rfl : v1 = 1 := ev1.trans (by decide)
  refine va_sld hx hb hX hbl hbA hS (ix_in ki_1 (by omega) (by omega)) dL_law_763 ?_
  refine W.eq (g2 := F0 m 764 ls [.int (xs 1), .ref h0]) rfl ?_
  refine lv_aload_n hx hb dL_law_764 rfl (lv_at hl 3 rfl) ?_
  refine lv_iload_n hx hb dL_law_765 rfl (lv_at hl 0 rfl) ?_
  refine lv_iconst (v := 2) hx hb dL_law_766 (by decide) ?_
  refine lv_iadd hx hb dL_law_767 ?_
  refine lv_topi (fun v2 ev2 => ?_)
  obtain rfl : v2 = 2 := ev2.trans (by decide)
  refine va_sld hx hb hX hbl hbA hS (ix_in ki_2 (by omega) (by omega)) dL_law_768 ?_
  refine W.eq (g2 := F0 m 769 ls [.int (xs 2), .int (xs 1), .ref h0]) rfl ?_
  refine k_i (wc := [(h0, oX9 b), (b 1, oX0 bc 0 0 0 0 0 0 0 0 0 0)]) (wr := [(h1, oX10 bm 0 0 0 0 0 0 0 0 (-1) 0 0 0 0 0 0 0 0 0), (bm 1, .inl (cI, 149, .inl (fun _ => 0))), (bm 15, .inl (cZ, 80, .inl (fun _ => 0))), (bm 16, .inl (cI, 7, .inl (fun _ => 0))), (bm 21, .inl (cZ, 80, .inl (fun _ => 0))), (bm 24, .inl (cI, 80, .inl (fun _ => 0))), (bm 25, .inl (cI, 6, .inl (fun _ => 0))), (bm 29, .inl (cI, 6, .inl (fun _ => 0))), (bm 30, .inl (cZ, 1040, .inl (fun _ => 0))), (bm 31, .inl (cI, 1040, .inl (fun _ => 0))), (bm 32, .inl (cI, 78, .inl (fun _ => 0))), (bm 27, .inl (cI, 7, .inl (fun _ => 0)))]) hP hD hS hA [0, 1] [2, 3, 4, 5, 6, 7, 8, 9, 10, 11, 12, 13] rfl rfl rfl (by decide) (va_runV (As := [.int (xs 1), .int (xs 2)]) (rest := []) ⟨hx, hb, hml, hown, hts⟩ (f_X9_road l G cI cJ cZ cB cQ _ h0 b bc (xs 1) (xs 2)) (cwV 2 hts (gV w_757 w_758 w_759 w_1 w_760) rfl rfl rfl ⟨rfl, hd_X9_road⟩ ⟨Nat.le_of_ble_eq_true rfl, Nat.le_of_ble_eq_true rfl⟩) (mV hK hZ hP hD [0, 1] rfl rfl [.int (xs 1), .int (xs 2)] 0 9 rfl rfl) rfl rfl hl.1 rfl (lv_room (Nat.le_of_ble_eq_true rfl)) dL_law_769 ⟨Nat.le_of_ble_eq_true rfl, Nat.le_of_ble_eq_true rfl⟩) (fun r3 u4 H locs hw5 hP hD hS => ?_)
  try dsimp only at hw5
  have hP : va_P G vwCl [(h1, oX10 bm 0 0 0 0 0 0 0 0 (-1) 0 0 0 0 0 0 0 0 0), (bm 1, .inl (cI, 149, .inl (fun _ => 0))), (bm 15, .inl (cZ, 80, .inl (fun _ => 0))), (bm 16, .inl (cI, 7, .inl (fun _ => 0))), (bm 21, .inl (cZ, 80, .inl (fun _ => 0))), (bm 24, .inl (cI, 80, .inl (fun _ => 0))), (bm 25, .inl (cI, 6, .inl (fun _ => 0))), (bm 29, .inl (cI, 6, .inl (fun _ => 0))), (bm 30, .inl (cZ, 1040, .inl (fun _ => 0))), (bm 31, .inl (cI, 1040, .inl (fun _ => 0))), (bm 32, .inl (cI, 78, .inl (fun _ => 0))), (bm 27, .inl (cI, 7, .inl (fun _ => 0))), (h0, oX9 b), (b 1, oX0 bc 0 0 0 0 0 0 0 0 0 0)] H := hP
  have hD : va_D A [(h1, oX10 bm 0 0 0 0 0 0 0 0 (-1) 0 0 0 0 0 0 0 0 0), (bm 1, .inl (cI, 149, .inl (fun _ => 0))), (bm 15, .inl (cZ, 80, .inl (fun _ => 0))), (bm 16, .inl (cI, 7, .inl (fun _ => 0))), (bm 21, .inl (cZ, 80, .inl (fun _ => 0))), (bm 24, .inl (cI, 80, .inl (fun _ => 0))), (bm 25, .inl (cI, 6, .inl (fun _ => 0))), (bm 29, .inl (cI, 6, .inl (fun _ => 0))), (bm 30, .inl (cZ, 1040, .inl (fun _ => 0))), (bm 31, .inl (cI, 1040, .inl (fun _ => 0))), (bm 32, .inl (cI, 78, .inl (fun _ => 0))), (bm 27, .inl (cI, 7, .inl (fun _ => 0))), (h0, oX9 b), (b 1, oX0 bc 0 0 0 0 0 0 0 0 0 0)] := hD
  obtain rfl : r3 = (-2) := hw5
  refine lv_aload_n hx hb dL_law_772 rfl (lv_at hl 1 rfl) ?_
  refine lv_aload_n hx hb dL_law_773 rfl (lv_at hl 3 rfl) ?_
  refine lv_iload_n hx hb dL_law_774 rfl (lv_at hl 0 rfl) ?_
  refine lv_iconst (v := 1) hx hb dL_law_775 (by decide) ?_
  refine lv_iadd hx hb dL_law_776 ?_
  refine lv_topi (fun v6 ev6 => ?_)
  obtain rfl : v6 = 1 := ev6.trans (by decide)
  refine va_sld hx hb hX hbl hbA hS (ix_in ki_1 (by omega) (by omega)) dL_law_777 ?_
  refine W.eq (g2 := F0 m 778 ls [.int (xs 1), .ref h1, .int (-2)]) rfl ?_
  refine lv_aload_n hx hb dL_law_778 rfl (lv_at hl 3 rfl) ?_
  refine lv_iload_n hx hb dL_law_779 rfl (lv_at hl 0 rfl) ?_
  refine lv_iconst (v := 2) hx hb dL_law_780 (by decide) ?_
  refine lv_iadd hx hb dL_law_781 ?_
  refine lv_topi (fun v7 ev7 => ?_)
  obtain rfl : v7 = 2 := ev7.trans (by decide)
  refine va_sld hx hb hX hbl hbA hS (ix_in ki_2 (by omega) (by omega)) dL_law_782 ?_
  refine W.eq (g2 := F0 m 783 ls [.int (xs 2), .int (xs 1), .ref h1, .int (-2)]) rfl ?_
  refine k_i (wc := [(h1, oX10 bm 0 0 0 0 0 0 0 0 (-1) 0 0 0 0 0 0 0 0 0), (bm 1, .inl (cI, 149, .inl (fun _ => 0))), (bm 15, .inl (cZ, 80, .inl (fun _ => 0))), (bm 16, .inl (cI, 7, .inl (fun _ => 0))), (bm 21, .inl (cZ, 80, .inl (fun _ => 0))), (bm 24, .inl (cI, 80, .inl (fun _ => 0))), (bm 25, .inl (cI, 6, .inl (fun _ => 0))), (bm 29, .inl (cI, 6, .inl (fun _ => 0))), (bm 30, .inl (cZ, 1040, .inl (fun _ => 0))), (bm 31, .inl (cI, 1040, .inl (fun _ => 0))), (bm 32, .inl (cI, 78, .inl (fun _ => 0))), (bm 27, .inl (cI, 7, .inl (fun _ => 0)))]) (wr := [(h0, oX9 b), (b 1, oX0 bc 0 0 0 0 0 0 0 0 0 0)]) hP hD hS hA [0, 1, 2, 3, 4, 5, 6, 7, 8, 9, 10, 11] [12, 13] rfl rfl rfl (by decide) (va_runV (As := [.int (xs 1), .int (xs 2)]) (rest := [.int (-2)]) ⟨hx, hb, hml, hown, hts⟩ (f_X10_road l G cI cJ cZ cB cQ _ h1 bm (xs 1) (xs 2)) (cwV 2 hts (gV w_1672 w_1673 w_1674 w_11 w_1675) rfl rfl rfl ⟨rfl, hd_X10_road⟩ ⟨Nat.le_of_ble_eq_true rfl, Nat.le_of_ble_eq_true rfl⟩) (mV hK hZ hP hD [0, 1, 2, 3, 4, 5, 6, 7, 8, 9, 10, 11] rfl rfl [.int (xs 1), .int (xs 2)] 0 10 rfl rfl) rfl rfl hl.1 rfl (lv_room (Nat.le_of_ble_eq_true rfl)) dL_law_783 ⟨Nat.le_of_ble_eq_true rfl, Nat.le_of_ble_eq_true rfl⟩) (fun r8 u9 H locs hw10 hP hD hS => ?_)
  obtain ⟨f011, rfl⟩ : ∃ z, z = u9 := ⟨_, rfl⟩
  try dsimp only at hw10
  have hP : va_P G vwCl [(h0, oX9 b), (b 1, oX0 bc 0 0 0 0 0 0 0 0 0 0), (h1, oX10 bm 0 0 0 0 0 0 0 0 (-1) 0 0 (-1) 0 0 0 0 0 0), (bm 1, .inl (cI, 149, .inl (fun _ => 0))), (bm 15, .inl (cZ, 80, .inl (fun _ => 0))), (bm 16, .inl (cI, 7, .inl (fun _ => 0))), (bm 21, .inl (cZ, 80, .inl (fun _ => 0))), (bm 24, .inl (cI, 80, .inl (fun _ => 0))), (bm 25, .inl (cI, 6, .inl (fun _ => 0))), (bm 29, .inl (cI, 6, .inl (fun _ => 0))), (bm 30, .inl (cZ, 1040, .inl (fun _ => 0))), (bm 31, .inl (cI, 1040, .inl (fun _ => 0))), (bm 32, .inl (cI, 78, .inl (fun _ => 0))), (bm 27, .inl (cI, 7, .inl f011))] H := hP
  have hD : va_D A [(h0, oX9 b), (b 1, oX0 bc 0 0 0 0 0 0 0 0 0 0), (h1, oX10 bm 0 0 0 0 0 0 0 0 (-1) 0 0 (-1) 0 0 0 0 0 0), (bm 1, .inl (cI, 149, .inl (fun _ => 0))), (bm 15, .inl (cZ, 80, .inl (fun _ => 0))), (bm 16, .inl (cI, 7, .inl (fun _ => 0))), (bm 21, .inl (cZ, 80, .inl (fun _ => 0))), (bm 24, .inl (cI, 80, .inl (fun _ => 0))), (bm 25, .inl (cI, 6, .inl (fun _ => 0))), (bm 29, .inl (cI, 6, .inl (fun _ => 0))), (bm 30, .inl (cZ, 1040, .inl (fun _ => 0))), (bm 31, .inl (cI, 1040, .inl (fun _ => 0))), (bm 32, .inl (cI, 78, .inl (fun _ => 0))), (bm 27, .inl (cI, 7, .inl f011))] := hD
  obtain rfl : r8 = (-2) := hw10
  refine lv_icmp_eq (tgt := 2226) hx hb dL_law_786 (by decide) (fun c12 => ?_) (fun c12 => absurd (by decide) c12)
  refine lv_iinc (v := 6) (lv' := [(3, .int 6), (2, .ref h1), (1, .ref h0), (0, .ref sb)]) hx hb dL_law_2226 hl (k := 0) rfl (by decide) (by decide) rfl (fun ls hl => ?_)
  refine lv_goto (tgt := 18) hx hb dL_law_2229 (by decide) ?_
  exact law_exit hL6 C0 hAe hS ls (lv_sub hl [3, 0] rfl) (by decide) (by decide)
set_option maxHeartbeats 4000000 in
set_option maxRecDepth 100000 in
theorem law_17 {p : Program} {e : Env} {s : State} {m : MethodId} {below : List Frame} {meth : Method} {c : Code} {l : Launch} {sb L : Nat} {xs : Nat → Int32} {A : Nat → Prop} {G : va_G} {cI cJ cZ cB cQ : ClassId} (h0 : Nat) (b : Nat → Nat) (br : Nat → Nat) (bt : Nat → Nat) (bi : Nat → Nat) (bc : Nat → Nat) (bn : Nat → Nat) (bs : Nat → Nat) (be : Nat → Nat) (bw : Nat → Nat) (h1 : Nat) (bm : Nat → Nat) {H : Heap} {locs : List Loc} (hL : L = 6) (C0 : lw_At p s m meth c sb L xs) (hAe : A = fun q => s.heap.size ≤ q) (hK : va_K G vwCl (TY cI cJ cZ cB cQ) s) (hZ : nz s) (hP : va_P G vwCl (wX cI cJ cZ cB cQ h0 b br bt bi bc bn bs be bw ++ wM cI cJ cZ cB cQ h1 bm) H) (hD : va_D A (wX cI cJ cZ cB cQ h0 b br bt bi bc bn bs be bw ++ wM cI cJ cZ cB cQ h1 bm)) (hS : va_S A s.heap H locs) (ls : Array Slot) (hl : lv_has ls 4 [(3, .int 0), (2, .ref h1), (1, .ref h0), (0, .ref sb)]) (v : Int32) (hv : v.toInt = 17) : W p l e room_1 s m #[Value.ref sb] below meth c H locs 88 8166 (lw_Z below #[Value.ref sb] s) (F0 m 33 ls [.int v]) := by
  have hL6 : L ≤ 6 := by omega
  obtain ⟨hx, hb, hr, hml, hown, hts0, hX, hbl, hlocks, hgv⟩ := id C0
  have hown : s.vm.findClass RL = some m.cls := hown
  have hts : ∀ q ∈ GW, q.before #[Value.ref sb] s = true := fun q h => hts0 q (List.mem_filter.mp h).1
  have hA : ∀ q : Nat, s.heap.size ≤ q → A q := fun q h => by rw [hAe]; exact h
  have hbA : ¬ A sb := by rw [hAe]; exact Nat.not_le.mpr hbl
  have hLT : (Int32.ofNat L).toInt = (L : Int) := nI_toInt (by omega)
  have hLi : (L : Int) = 6 := by omega
  refine lv_tableIn (off := 758) (tgt := 791) hx hb dL_law_33 (by rw [hv]; decide) (by rw [hv]; decide) (by rw [hv]; rfl) (by decide) ?_
  have hP : va_P G vwCl [(h0, oX9 b), (b 1, oX0 bc 0 0 0 0 0 0 0 0 0 0), (h1, oX10 bm 0 0 0 0 0 0 0 0 (-1) 0 0 0 0 0 0 0 0 0), (bm 1, .inl (cI, 149, .inl (fun _ => 0))), (bm 15, .inl (cZ, 80, .inl (fun _ => 0))), (bm 16, .inl (cI, 7, .inl (fun _ => 0))), (bm 21, .inl (cZ, 80, .inl (fun _ => 0))), (bm 24, .inl (cI, 80, .inl (fun _ => 0))), (bm 25, .inl (cI, 6, .inl (fun _ => 0))), (bm 29, .inl (cI, 6, .inl (fun _ => 0))), (bm 30, .inl (cZ, 1040, .inl (fun _ => 0))), (bm 31, .inl (cI, 1040, .inl (fun _ => 0))), (bm 32, .inl (cI, 78, .inl (fun _ => 0))), (bm 27, .inl (cI, 7, .inl (fun _ => 0)))] H := hP.sub [0, 14, 59, 60, 66, 67, 68, 71, 72, 76, 77, 78, 79, 74] rfl
  have hD : va_D A [(h0, oX9 b), (b 1, oX0 bc 0 0 0 0 0 0 0 0 0 0), (h1, oX10 bm 0 0 0 0 0 0 0 0 (-1) 0 0 0 0 0 0 0 0 0), (bm 1, .inl (cI, 149, .inl (fun _ => 0))), (bm 15, .inl (cZ, 80, .inl (fun _ => 0))), (bm 16, .inl (cI, 7, .inl (fun _ => 0))), (bm 21, .inl (cZ, 80, .inl (fun _ => 0))), (bm 24, .inl (cI, 80, .inl (fun _ => 0))), (bm 25, .inl (cI, 6, .inl (fun _ => 0))), (bm 29, .inl (cI, 6, .inl (fun _ => 0))), (bm 30, .inl (cZ, 1040, .inl (fun _ => 0))), (bm 31, .inl (cI, 1040, .inl (fun _ => 0))), (bm 32, .inl (cI, 78, .inl (fun _ => 0))), (bm 27, .inl (cI, 7, .inl (fun _ => 0)))] := hD.sub [0, 14, 59, 60, 66, 67, 68, 71, 72, 76, 77, 78, 79, 74] rfl rfl
  refine lv_aload_n hx hb dL_law_791 rfl (lv_at hl 2 rfl) ?_
  refine lv_aload_n hx hb dL_law_792 rfl (lv_at hl 3 rfl) ?_
  refine lv_iload_n hx hb dL_law_793 rfl (lv_at hl 0 rfl) ?_
  refine lv_iconst (v := 1) hx hb dL_law_794 (by decide) ?_
  refine lv_iadd hx hb dL_law_795 ?_
  refine lv_topi (fun v1 ev1 => ?_)
  obtain rfl : v1 = 1 := ev1.trans (by decide)
  refine va_sld hx hb hX hbl hbA hS (ix_in ki_1 (by omega) (by omega)) dL_law_796 ?_
  refine W.eq (g2 := F0 m 797 ls [.int (xs 1), .ref h0]) rfl ?_
  refine k_i (wc := [(h0, oX9 b), (b 1, oX0 bc 0 0 0 0 0 0 0 0 0 0)]) (wr := [(h1, oX10 bm 0 0 0 0 0 0 0 0 (-1) 0 0 0 0 0 0 0 0 0), (bm 1, .inl (cI, 149, .inl (fun _ => 0))), (bm 15, .inl (cZ, 80, .inl (fun _ => 0))), (bm 16, .inl (cI, 7, .inl (fun _ => 0))), (bm 21, .inl (cZ, 80, .inl (fun _ => 0))), (bm 24, .inl (cI, 80, .inl (fun _ => 0))), (bm 25, .inl (cI, 6, .inl (fun _ => 0))), (bm 29, .inl (cI, 6, .inl (fun _ => 0))), (bm 30, .inl (cZ, 1040, .inl (fun _ => 0))), (bm 31, .inl (cI, 1040, .inl (fun _ => 0))), (bm 32, .inl (cI, 78, .inl (fun _ => 0))), (bm 27, .inl (cI, 7, .inl (fun _ => 0)))]) hP hD hS hA [0, 1] [2, 3, 4, 5, 6, 7, 8, 9, 10, 11, 12, 13] rfl rfl rfl (by decide) (va_runV (As := [.int (xs 1)]) (rest := []) ⟨hx, hb, hml, hown, hts⟩ (f_X9_roads l G cI cJ cZ cB cQ _ h0 b bc (xs 1)) (cwV 1 hts (gV w_761 w_762 w_763 w_1 w_764) rfl rfl rfl ⟨rfl, hd_X9_roads⟩ ⟨Nat.le_of_ble_eq_true rfl, Nat.le_of_ble_eq_true rfl⟩) (mV hK hZ hP hD [0, 1] rfl rfl [.int (xs 1)] 0 9 rfl rfl) rfl rfl hl.1 rfl (lv_room (Nat.le_of_ble_eq_true rfl)) dL_law_797 ⟨Nat.le_of_ble_eq_true rfl, Nat.le_of_ble_eq_true rfl⟩) (fun r2 u3 H locs hw4 hP hD hS => ?_)
  try dsimp only at hw4
  have hP : va_P G vwCl [(h1, oX10 bm 0 0 0 0 0 0 0 0 (-1) 0 0 0 0 0 0 0 0 0), (bm 1, .inl (cI, 149, .inl (fun _ => 0))), (bm 15, .inl (cZ, 80, .inl (fun _ => 0))), (bm 16, .inl (cI, 7, .inl (fun _ => 0))), (bm 21, .inl (cZ, 80, .inl (fun _ => 0))), (bm 24, .inl (cI, 80, .inl (fun _ => 0))), (bm 25, .inl (cI, 6, .inl (fun _ => 0))), (bm 29, .inl (cI, 6, .inl (fun _ => 0))), (bm 30, .inl (cZ, 1040, .inl (fun _ => 0))), (bm 31, .inl (cI, 1040, .inl (fun _ => 0))), (bm 32, .inl (cI, 78, .inl (fun _ => 0))), (bm 27, .inl (cI, 7, .inl (fun _ => 0))), (h0, oX9 b), (b 1, oX0 bc 0 0 0 0 0 0 0 0 0 0)] H := hP
  have hD : va_D A [(h1, oX10 bm 0 0 0 0 0 0 0 0 (-1) 0 0 0 0 0 0 0 0 0), (bm 1, .inl (cI, 149, .inl (fun _ => 0))), (bm 15, .inl (cZ, 80, .inl (fun _ => 0))), (bm 16, .inl (cI, 7, .inl (fun _ => 0))), (bm 21, .inl (cZ, 80, .inl (fun _ => 0))), (bm 24, .inl (cI, 80, .inl (fun _ => 0))), (bm 25, .inl (cI, 6, .inl (fun _ => 0))), (bm 29, .inl (cI, 6, .inl (fun _ => 0))), (bm 30, .inl (cZ, 1040, .inl (fun _ => 0))), (bm 31, .inl (cI, 1040, .inl (fun _ => 0))), (bm 32, .inl (cI, 78, .inl (fun _ => 0))), (bm 27, .inl (cI, 7, .inl (fun _ => 0))), (h0, oX9 b), (b 1, oX0 bc 0 0 0 0 0 0 0 0 0 0)] := hD
  obtain rfl : r2 = (-2) := hw4
  refine lv_aload_n hx hb dL_law_800 rfl (lv_at hl 1 rfl) ?_
  refine lv_aload_n hx hb dL_law_801 rfl (lv_at hl 3 rfl) ?_
  refine lv_iload_n hx hb dL_law_802 rfl (lv_at hl 0 rfl) ?_
  refine lv_iconst (v := 1) hx hb dL_law_803 (by decide) ?_
  refine lv_iadd hx hb dL_law_804 ?_
  refine lv_topi (fun v5 ev5 => ?_)
  obtain rfl : v5 = 1 := ev5.trans (by decide)
  refine va_sld hx hb hX hbl hbA hS (ix_in ki_1 (by omega) (by omega)) dL_law_805 ?_
  refine W.eq (g2 := F0 m 806 ls [.int (xs 1), .ref h1, .int (-2)]) rfl ?_
  refine k_i (wc := [(h1, oX10 bm 0 0 0 0 0 0 0 0 (-1) 0 0 0 0 0 0 0 0 0), (bm 1, .inl (cI, 149, .inl (fun _ => 0))), (bm 15, .inl (cZ, 80, .inl (fun _ => 0))), (bm 16, .inl (cI, 7, .inl (fun _ => 0))), (bm 21, .inl (cZ, 80, .inl (fun _ => 0))), (bm 24, .inl (cI, 80, .inl (fun _ => 0))), (bm 25, .inl (cI, 6, .inl (fun _ => 0))), (bm 29, .inl (cI, 6, .inl (fun _ => 0))), (bm 30, .inl (cZ, 1040, .inl (fun _ => 0))), (bm 31, .inl (cI, 1040, .inl (fun _ => 0))), (bm 32, .inl (cI, 78, .inl (fun _ => 0))), (bm 27, .inl (cI, 7, .inl (fun _ => 0)))]) (wr := [(h0, oX9 b), (b 1, oX0 bc 0 0 0 0 0 0 0 0 0 0)]) hP hD hS hA [0, 1, 2, 3, 4, 5, 6, 7, 8, 9, 10, 11] [12, 13] rfl rfl rfl (by decide) (va_runV (As := [.int (xs 1)]) (rest := [.int (-2)]) ⟨hx, hb, hml, hown, hts⟩ (f_X10_roads l G cI cJ cZ cB cQ _ h1 bm (xs 1)) (cwV 1 hts (gV w_1676 w_1677 w_1678 w_11 w_1679) rfl rfl rfl ⟨rfl, hd_X10_roads⟩ ⟨Nat.le_of_ble_eq_true rfl, Nat.le_of_ble_eq_true rfl⟩) (mV hK hZ hP hD [0, 1, 2, 3, 4, 5, 6, 7, 8, 9, 10, 11] rfl rfl [.int (xs 1)] 0 10 rfl rfl) rfl rfl hl.1 rfl (lv_room (Nat.le_of_ble_eq_true rfl)) dL_law_806 ⟨Nat.le_of_ble_eq_true rfl, Nat.le_of_ble_eq_true rfl⟩) (fun r6 u7 H locs hw8 hP hD hS => ?_)
  obtain ⟨f09, rfl⟩ : ∃ z, z = u7 := ⟨_, rfl⟩
  try dsimp only at hw8
  have hP : va_P G vwCl [(h0, oX9 b), (b 1, oX0 bc 0 0 0 0 0 0 0 0 0 0), (h1, oX10 bm 0 0 0 0 0 0 0 0 (-1) 0 0 (-1) 0 0 0 0 0 0), (bm 1, .inl (cI, 149, .inl (fun _ => 0))), (bm 15, .inl (cZ, 80, .inl (fun _ => 0))), (bm 16, .inl (cI, 7, .inl (fun _ => 0))), (bm 21, .inl (cZ, 80, .inl (fun _ => 0))), (bm 24, .inl (cI, 80, .inl (fun _ => 0))), (bm 25, .inl (cI, 6, .inl (fun _ => 0))), (bm 29, .inl (cI, 6, .inl (fun _ => 0))), (bm 30, .inl (cZ, 1040, .inl (fun _ => 0))), (bm 31, .inl (cI, 1040, .inl (fun _ => 0))), (bm 32, .inl (cI, 78, .inl (fun _ => 0))), (bm 27, .inl (cI, 7, .inl f09))] H := hP
  have hD : va_D A [(h0, oX9 b), (b 1, oX0 bc 0 0 0 0 0 0 0 0 0 0), (h1, oX10 bm 0 0 0 0 0 0 0 0 (-1) 0 0 (-1) 0 0 0 0 0 0), (bm 1, .inl (cI, 149, .inl (fun _ => 0))), (bm 15, .inl (cZ, 80, .inl (fun _ => 0))), (bm 16, .inl (cI, 7, .inl (fun _ => 0))), (bm 21, .inl (cZ, 80, .inl (fun _ => 0))), (bm 24, .inl (cI, 80, .inl (fun _ => 0))), (bm 25, .inl (cI, 6, .inl (fun _ => 0))), (bm 29, .inl (cI, 6, .inl (fun _ => 0))), (bm 30, .inl (cZ, 1040, .inl (fun _ => 0))), (bm 31, .inl (cI, 1040, .inl (fun _ => 0))), (bm 32, .inl (cI, 78, .inl (fun _ => 0))), (bm 27, .inl (cI, 7, .inl f09))] := hD
  obtain rfl : r6 = (-2) := hw8
  refine lv_icmp_eq (tgt := 2226) hx hb dL_law_809 (by decide) (fun c10 => ?_) (fun c10 => absurd (by decide) c10)
  refine lv_iinc (v := 6) (lv' := [(3, .int 6), (2, .ref h1), (1, .ref h0), (0, .ref sb)]) hx hb dL_law_2226 hl (k := 0) rfl (by decide) (by decide) rfl (fun ls hl => ?_)
  refine lv_goto (tgt := 18) hx hb dL_law_2229 (by decide) ?_
  exact law_exit hL6 C0 hAe hS ls (lv_sub hl [3, 0] rfl) (by decide) (by decide)
set_option maxHeartbeats 4000000 in
set_option maxRecDepth 100000 in
theorem law_18 {p : Program} {e : Env} {s : State} {m : MethodId} {below : List Frame} {meth : Method} {c : Code} {l : Launch} {sb L : Nat} {xs : Nat → Int32} {A : Nat → Prop} {G : va_G} {cI cJ cZ cB cQ : ClassId} (h0 : Nat) (b : Nat → Nat) (br : Nat → Nat) (bt : Nat → Nat) (bi : Nat → Nat) (bc : Nat → Nat) (bn : Nat → Nat) (bs : Nat → Nat) (be : Nat → Nat) (bw : Nat → Nat) (h1 : Nat) (bm : Nat → Nat) {H : Heap} {locs : List Loc} (hL : L = 6) (C0 : lw_At p s m meth c sb L xs) (hAe : A = fun q => s.heap.size ≤ q) (hK : va_K G vwCl (TY cI cJ cZ cB cQ) s) (hZ : nz s) (hP : va_P G vwCl (wX cI cJ cZ cB cQ h0 b br bt bi bc bn bs be bw ++ wM cI cJ cZ cB cQ h1 bm) H) (hD : va_D A (wX cI cJ cZ cB cQ h0 b br bt bi bc bn bs be bw ++ wM cI cJ cZ cB cQ h1 bm)) (hS : va_S A s.heap H locs) (ls : Array Slot) (hl : lv_has ls 4 [(3, .int 0), (2, .ref h1), (1, .ref h0), (0, .ref sb)]) (v : Int32) (hv : v.toInt = 18) : W p l e room_1 s m #[Value.ref sb] below meth c H locs 88 8166 (lw_Z below #[Value.ref sb] s) (F0 m 33 ls [.int v]) := by
  have hL6 : L ≤ 6 := by omega
  obtain ⟨hx, hb, hr, hml, hown, hts0, hX, hbl, hlocks, hgv⟩ := id C0
  have hown : s.vm.findClass RL = some m.cls := hown
  have hts : ∀ q ∈ GW, q.before #[Value.ref sb] s = true := fun q h => hts0 q (List.mem_filter.mp h).1
  have hA : ∀ q : Nat, s.heap.size ≤ q → A q := fun q h => by rw [hAe]; exact h
  have hbA : ¬ A sb := by rw [hAe]; exact Nat.not_le.mpr hbl
  have hLT : (Int32.ofNat L).toInt = (L : Int) := nI_toInt (by omega)
  have hLi : (L : Int) = 6 := by omega
  refine lv_tableIn (off := 781) (tgt := 814) hx hb dL_law_33 (by rw [hv]; decide) (by rw [hv]; decide) (by rw [hv]; rfl) (by decide) ?_
  have hP : va_P G vwCl [(h0, oX9 b), (b 1, oX0 bc 0 0 0 0 0 0 0 0 0 0), (h1, oX10 bm 0 0 0 0 0 0 0 0 (-1) 0 0 0 0 0 0 0 0 0), (bm 1, .inl (cI, 149, .inl (fun _ => 0))), (bm 15, .inl (cZ, 80, .inl (fun _ => 0))), (bm 16, .inl (cI, 7, .inl (fun _ => 0))), (bm 21, .inl (cZ, 80, .inl (fun _ => 0))), (bm 24, .inl (cI, 80, .inl (fun _ => 0))), (bm 25, .inl (cI, 6, .inl (fun _ => 0))), (bm 29, .inl (cI, 6, .inl (fun _ => 0))), (bm 30, .inl (cZ, 1040, .inl (fun _ => 0))), (bm 31, .inl (cI, 1040, .inl (fun _ => 0))), (bm 32, .inl (cI, 78, .inl (fun _ => 0))), (bm 27, .inl (cI, 7, .inl (fun _ => 0)))] H := hP.sub [0, 14, 59, 60, 66, 67, 68, 71, 72, 76, 77, 78, 79, 74] rfl
  have hD : va_D A [(h0, oX9 b), (b 1, oX0 bc 0 0 0 0 0 0 0 0 0 0), (h1, oX10 bm 0 0 0 0 0 0 0 0 (-1) 0 0 0 0 0 0 0 0 0), (bm 1, .inl (cI, 149, .inl (fun _ => 0))), (bm 15, .inl (cZ, 80, .inl (fun _ => 0))), (bm 16, .inl (cI, 7, .inl (fun _ => 0))), (bm 21, .inl (cZ, 80, .inl (fun _ => 0))), (bm 24, .inl (cI, 80, .inl (fun _ => 0))), (bm 25, .inl (cI, 6, .inl (fun _ => 0))), (bm 29, .inl (cI, 6, .inl (fun _ => 0))), (bm 30, .inl (cZ, 1040, .inl (fun _ => 0))), (bm 31, .inl (cI, 1040, .inl (fun _ => 0))), (bm 32, .inl (cI, 78, .inl (fun _ => 0))), (bm 27, .inl (cI, 7, .inl (fun _ => 0)))] := hD.sub [0, 14, 59, 60, 66, 67, 68, 71, 72, 76, 77, 78, 79, 74] rfl rfl
  refine lv_aload_n hx hb dL_law_814 rfl (lv_at hl 2 rfl) ?_
  refine lv_aload_n hx hb dL_law_815 rfl (lv_at hl 3 rfl) ?_
  refine lv_iload_n hx hb dL_law_816 rfl (lv_at hl 0 rfl) ?_
  refine lv_iconst (v := 1) hx hb dL_law_817 (by decide) ?_
  refine lv_iadd hx hb dL_law_818 ?_
  refine lv_topi (fun v1 ev1 => ?_)
  obtain rfl : v1 = 1 := ev1.trans (by decide)
  refine va_sld hx hb hX hbl hbA hS (ix_in ki_1 (by omega) (by omega)) dL_law_819 ?_
  refine W.eq (g2 := F0 m 820 ls [.int (xs 1), .ref h0]) rfl ?_
  refine k_i (wc := [(h0, oX9 b), (b 1, oX0 bc 0 0 0 0 0 0 0 0 0 0)]) (wr := [(h1, oX10 bm 0 0 0 0 0 0 0 0 (-1) 0 0 0 0 0 0 0 0 0), (bm 1, .inl (cI, 149, .inl (fun _ => 0))), (bm 15, .inl (cZ, 80, .inl (fun _ => 0))), (bm 16, .inl (cI, 7, .inl (fun _ => 0))), (bm 21, .inl (cZ, 80, .inl (fun _ => 0))), (bm 24, .inl (cI, 80, .inl (fun _ => 0))), (bm 25, .inl (cI, 6, .inl (fun _ => 0))), (bm 29, .inl (cI, 6, .inl (fun _ => 0))), (bm 30, .inl (cZ, 1040, .inl (fun _ => 0))), (bm 31, .inl (cI, 1040, .inl (fun _ => 0))), (bm 32, .inl (cI, 78, .inl (fun _ => 0))), (bm 27, .inl (cI, 7, .inl (fun _ => 0)))]) hP hD hS hA [0, 1] [2, 3, 4, 5, 6, 7, 8, 9, 10, 11, 12, 13] rfl rfl rfl (by decide) (va_runV (As := [.int (xs 1)]) (rest := []) ⟨hx, hb, hml, hown, hts⟩ (f_X9_pegs l G cI cJ cZ cB cQ _ h0 b bc (xs 1)) (cwV 1 hts (gV w_765 w_766 w_767 w_1 w_768) rfl rfl rfl ⟨rfl, hd_X9_pegs⟩ ⟨Nat.le_of_ble_eq_true rfl, Nat.le_of_ble_eq_true rfl⟩) (mV hK hZ hP hD [0, 1] rfl rfl [.int (xs 1)] 0 9 rfl rfl) rfl rfl hl.1 rfl (lv_room (Nat.le_of_ble_eq_true rfl)) dL_law_820 ⟨Nat.le_of_ble_eq_true rfl, Nat.le_of_ble_eq_true rfl⟩) (fun r2 u3 H locs hw4 hP hD hS => ?_)
  try dsimp only at hw4
  have hP : va_P G vwCl [(h1, oX10 bm 0 0 0 0 0 0 0 0 (-1) 0 0 0 0 0 0 0 0 0), (bm 1, .inl (cI, 149, .inl (fun _ => 0))), (bm 15, .inl (cZ, 80, .inl (fun _ => 0))), (bm 16, .inl (cI, 7, .inl (fun _ => 0))), (bm 21, .inl (cZ, 80, .inl (fun _ => 0))), (bm 24, .inl (cI, 80, .inl (fun _ => 0))), (bm 25, .inl (cI, 6, .inl (fun _ => 0))), (bm 29, .inl (cI, 6, .inl (fun _ => 0))), (bm 30, .inl (cZ, 1040, .inl (fun _ => 0))), (bm 31, .inl (cI, 1040, .inl (fun _ => 0))), (bm 32, .inl (cI, 78, .inl (fun _ => 0))), (bm 27, .inl (cI, 7, .inl (fun _ => 0))), (h0, oX9 b), (b 1, oX0 bc 0 0 0 0 0 0 0 0 0 0)] H := hP
  have hD : va_D A [(h1, oX10 bm 0 0 0 0 0 0 0 0 (-1) 0 0 0 0 0 0 0 0 0), (bm 1, .inl (cI, 149, .inl (fun _ => 0))), (bm 15, .inl (cZ, 80, .inl (fun _ => 0))), (bm 16, .inl (cI, 7, .inl (fun _ => 0))), (bm 21, .inl (cZ, 80, .inl (fun _ => 0))), (bm 24, .inl (cI, 80, .inl (fun _ => 0))), (bm 25, .inl (cI, 6, .inl (fun _ => 0))), (bm 29, .inl (cI, 6, .inl (fun _ => 0))), (bm 30, .inl (cZ, 1040, .inl (fun _ => 0))), (bm 31, .inl (cI, 1040, .inl (fun _ => 0))), (bm 32, .inl (cI, 78, .inl (fun _ => 0))), (bm 27, .inl (cI, 7, .inl (fun _ => 0))), (h0, oX9 b), (b 1, oX0 bc 0 0 0 0 0 0 0 0 0 0)] := hD
  obtain rfl : r2 = (-2) := hw4
  refine lv_aload_n hx hb dL_law_823 rfl (lv_at hl 1 rfl) ?_
  refine lv_aload_n hx hb dL_law_824 rfl (lv_at hl 3 rfl) ?_
  refine lv_iload_n hx hb dL_law_825 rfl (lv_at hl 0 rfl) ?_
  refine lv_iconst (v := 1) hx hb dL_law_826 (by decide) ?_
  refine lv_iadd hx hb dL_law_827 ?_
  refine lv_topi (fun v5 ev5 => ?_)
  obtain rfl : v5 = 1 := ev5.trans (by decide)
  refine va_sld hx hb hX hbl hbA hS (ix_in ki_1 (by omega) (by omega)) dL_law_828 ?_
  refine W.eq (g2 := F0 m 829 ls [.int (xs 1), .ref h1, .int (-2)]) rfl ?_
  refine k_i (wc := [(h1, oX10 bm 0 0 0 0 0 0 0 0 (-1) 0 0 0 0 0 0 0 0 0), (bm 1, .inl (cI, 149, .inl (fun _ => 0))), (bm 15, .inl (cZ, 80, .inl (fun _ => 0))), (bm 16, .inl (cI, 7, .inl (fun _ => 0))), (bm 21, .inl (cZ, 80, .inl (fun _ => 0))), (bm 24, .inl (cI, 80, .inl (fun _ => 0))), (bm 25, .inl (cI, 6, .inl (fun _ => 0))), (bm 29, .inl (cI, 6, .inl (fun _ => 0))), (bm 30, .inl (cZ, 1040, .inl (fun _ => 0))), (bm 31, .inl (cI, 1040, .inl (fun _ => 0))), (bm 32, .inl (cI, 78, .inl (fun _ => 0))), (bm 27, .inl (cI, 7, .inl (fun _ => 0)))]) (wr := [(h0, oX9 b), (b 1, oX0 bc 0 0 0 0 0 0 0 0 0 0)]) hP hD hS hA [0, 1, 2, 3, 4, 5, 6, 7, 8, 9, 10, 11] [12, 13] rfl rfl rfl (by decide) (va_runV (As := [.int (xs 1)]) (rest := [.int (-2)]) ⟨hx, hb, hml, hown, hts⟩ (f_X10_pegs l G cI cJ cZ cB cQ _ h1 bm (xs 1)) (cwV 1 hts (gV w_1684 w_1685 w_1686 w_11 w_1687) rfl rfl rfl ⟨rfl, hd_X10_pegs⟩ ⟨Nat.le_of_ble_eq_true rfl, Nat.le_of_ble_eq_true rfl⟩) (mV hK hZ hP hD [0, 1, 2, 3, 4, 5, 6, 7, 8, 9, 10, 11] rfl rfl [.int (xs 1)] 0 10 rfl rfl) rfl rfl hl.1 rfl (lv_room (Nat.le_of_ble_eq_true rfl)) dL_law_829 ⟨Nat.le_of_ble_eq_true rfl, Nat.le_of_ble_eq_true rfl⟩) (fun r6 u7 H locs hw8 hP hD hS => ?_)
  obtain ⟨f09, rfl⟩ : ∃ z, z = u7 := ⟨_, rfl⟩
  try dsimp only at hw8
  have hP : va_P G vwCl [(h0, oX9 b), (b 1, oX0 bc 0 0 0 0 0 0 0 0 0 0), (h1, oX10 bm 0 0 0 0 0 0 0 0 (-1) 0 0 (-1) 0 0 0 0 0 0), (bm 1, .inl (cI, 149, .inl (fun _ => 0))), (bm 15, .inl (cZ, 80, .inl (fun _ => 0))), (bm 16, .inl (cI, 7, .inl (fun _ => 0))), (bm 21, .inl (cZ, 80, .inl (fun _ => 0))), (bm 24, .inl (cI, 80, .inl (fun _ => 0))), (bm 25, .inl (cI, 6, .inl (fun _ => 0))), (bm 29, .inl (cI, 6, .inl (fun _ => 0))), (bm 30, .inl (cZ, 1040, .inl (fun _ => 0))), (bm 31, .inl (cI, 1040, .inl (fun _ => 0))), (bm 32, .inl (cI, 78, .inl (fun _ => 0))), (bm 27, .inl (cI, 7, .inl f09))] H := hP
  have hD : va_D A [(h0, oX9 b), (b 1, oX0 bc 0 0 0 0 0 0 0 0 0 0), (h1, oX10 bm 0 0 0 0 0 0 0 0 (-1) 0 0 (-1) 0 0 0 0 0 0), (bm 1, .inl (cI, 149, .inl (fun _ => 0))), (bm 15, .inl (cZ, 80, .inl (fun _ => 0))), (bm 16, .inl (cI, 7, .inl (fun _ => 0))), (bm 21, .inl (cZ, 80, .inl (fun _ => 0))), (bm 24, .inl (cI, 80, .inl (fun _ => 0))), (bm 25, .inl (cI, 6, .inl (fun _ => 0))), (bm 29, .inl (cI, 6, .inl (fun _ => 0))), (bm 30, .inl (cZ, 1040, .inl (fun _ => 0))), (bm 31, .inl (cI, 1040, .inl (fun _ => 0))), (bm 32, .inl (cI, 78, .inl (fun _ => 0))), (bm 27, .inl (cI, 7, .inl f09))] := hD
  obtain rfl : r6 = (-2) := hw8
  refine lv_icmp_eq (tgt := 2226) hx hb dL_law_832 (by decide) (fun c10 => ?_) (fun c10 => absurd (by decide) c10)
  refine lv_iinc (v := 6) (lv' := [(3, .int 6), (2, .ref h1), (1, .ref h0), (0, .ref sb)]) hx hb dL_law_2226 hl (k := 0) rfl (by decide) (by decide) rfl (fun ls hl => ?_)
  refine lv_goto (tgt := 18) hx hb dL_law_2229 (by decide) ?_
  exact law_exit hL6 C0 hAe hS ls (lv_sub hl [3, 0] rfl) (by decide) (by decide)
set_option maxHeartbeats 4000000 in
set_option maxRecDepth 100000 in
theorem law_19 {p : Program} {e : Env} {s : State} {m : MethodId} {below : List Frame} {meth : Method} {c : Code} {l : Launch} {sb L : Nat} {xs : Nat → Int32} {A : Nat → Prop} {G : va_G} {cI cJ cZ cB cQ : ClassId} (h0 : Nat) (b : Nat → Nat) (br : Nat → Nat) (bt : Nat → Nat) (bi : Nat → Nat) (bc : Nat → Nat) (bn : Nat → Nat) (bs : Nat → Nat) (be : Nat → Nat) (bw : Nat → Nat) (h1 : Nat) (bm : Nat → Nat) {H : Heap} {locs : List Loc} (hL : L = 6) (C0 : lw_At p s m meth c sb L xs) (hAe : A = fun q => s.heap.size ≤ q) (hK : va_K G vwCl (TY cI cJ cZ cB cQ) s) (hZ : nz s) (hP : va_P G vwCl (wX cI cJ cZ cB cQ h0 b br bt bi bc bn bs be bw ++ wM cI cJ cZ cB cQ h1 bm) H) (hD : va_D A (wX cI cJ cZ cB cQ h0 b br bt bi bc bn bs be bw ++ wM cI cJ cZ cB cQ h1 bm)) (hS : va_S A s.heap H locs) (ls : Array Slot) (hl : lv_has ls 4 [(3, .int 0), (2, .ref h1), (1, .ref h0), (0, .ref sb)]) (v : Int32) (hv : v.toInt = 19) : W p l e room_1 s m #[Value.ref sb] below meth c H locs 88 8166 (lw_Z below #[Value.ref sb] s) (F0 m 33 ls [.int v]) := by
  have hL6 : L ≤ 6 := by omega
  obtain ⟨hx, hb, hr, hml, hown, hts0, hX, hbl, hlocks, hgv⟩ := id C0
  have hown : s.vm.findClass RL = some m.cls := hown
  have hts : ∀ q ∈ GW, q.before #[Value.ref sb] s = true := fun q h => hts0 q (List.mem_filter.mp h).1
  have hA : ∀ q : Nat, s.heap.size ≤ q → A q := fun q h => by rw [hAe]; exact h
  have hbA : ¬ A sb := by rw [hAe]; exact Nat.not_le.mpr hbl
  have hLT : (Int32.ofNat L).toInt = (L : Int) := nI_toInt (by omega)
  have hLi : (L : Int) = 6 := by omega
  refine lv_tableIn (off := 804) (tgt := 837) hx hb dL_law_33 (by rw [hv]; decide) (by rw [hv]; decide) (by rw [hv]; rfl) (by decide) ?_
  have hP : va_P G vwCl [(h0, oX9 b), (b 1, oX0 bc 0 0 0 0 0 0 0 0 0 0), (h1, oX10 bm 0 0 0 0 0 0 0 0 (-1) 0 0 0 0 0 0 0 0 0), (bm 1, .inl (cI, 149, .inl (fun _ => 0))), (bm 15, .inl (cZ, 80, .inl (fun _ => 0))), (bm 16, .inl (cI, 7, .inl (fun _ => 0))), (bm 21, .inl (cZ, 80, .inl (fun _ => 0))), (bm 24, .inl (cI, 80, .inl (fun _ => 0))), (bm 25, .inl (cI, 6, .inl (fun _ => 0))), (bm 29, .inl (cI, 6, .inl (fun _ => 0))), (bm 30, .inl (cZ, 1040, .inl (fun _ => 0))), (bm 31, .inl (cI, 1040, .inl (fun _ => 0))), (bm 32, .inl (cI, 78, .inl (fun _ => 0))), (bm 27, .inl (cI, 7, .inl (fun _ => 0)))] H := hP.sub [0, 14, 59, 60, 66, 67, 68, 71, 72, 76, 77, 78, 79, 74] rfl
  have hD : va_D A [(h0, oX9 b), (b 1, oX0 bc 0 0 0 0 0 0 0 0 0 0), (h1, oX10 bm 0 0 0 0 0 0 0 0 (-1) 0 0 0 0 0 0 0 0 0), (bm 1, .inl (cI, 149, .inl (fun _ => 0))), (bm 15, .inl (cZ, 80, .inl (fun _ => 0))), (bm 16, .inl (cI, 7, .inl (fun _ => 0))), (bm 21, .inl (cZ, 80, .inl (fun _ => 0))), (bm 24, .inl (cI, 80, .inl (fun _ => 0))), (bm 25, .inl (cI, 6, .inl (fun _ => 0))), (bm 29, .inl (cI, 6, .inl (fun _ => 0))), (bm 30, .inl (cZ, 1040, .inl (fun _ => 0))), (bm 31, .inl (cI, 1040, .inl (fun _ => 0))), (bm 32, .inl (cI, 78, .inl (fun _ => 0))), (bm 27, .inl (cI, 7, .inl (fun _ => 0)))] := hD.sub [0, 14, 59, 60, 66, 67, 68, 71, 72, 76, 77, 78, 79, 74] rfl rfl
  refine lv_aload_n hx hb dL_law_837 rfl (lv_at hl 2 rfl) ?_
  refine lv_aload_n hx hb dL_law_838 rfl (lv_at hl 3 rfl) ?_
  refine lv_iload_n hx hb dL_law_839 rfl (lv_at hl 0 rfl) ?_
  refine lv_iconst (v := 1) hx hb dL_law_840 (by decide) ?_
  refine lv_iadd hx hb dL_law_841 ?_
  refine lv_topi (fun v1 ev1 => ?_)
  obtain rfl : v1 = 1 := ev1.trans (by decide)
  refine va_sld hx hb hX hbl hbA hS (ix_in ki_1 (by omega) (by omega)) dL_law_842 ?_
  refine W.eq (g2 := F0 m 843 ls [.int (xs 1), .ref h0]) rfl ?_
  refine lv_aload_n hx hb dL_law_843 rfl (lv_at hl 3 rfl) ?_
  refine lv_iload_n hx hb dL_law_844 rfl (lv_at hl 0 rfl) ?_
  refine lv_iconst (v := 2) hx hb dL_law_845 (by decide) ?_
  refine lv_iadd hx hb dL_law_846 ?_
  refine lv_topi (fun v2 ev2 => ?_)
  obtain rfl : v2 = 2 := ev2.trans (by decide)
  refine va_sld hx hb hX hbl hbA hS (ix_in ki_2 (by omega) (by omega)) dL_law_847 ?_
  refine W.eq (g2 := F0 m 848 ls [.int (xs 2), .int (xs 1), .ref h0]) rfl ?_
  refine k_i (wc := [(h0, oX9 b), (b 1, oX0 bc 0 0 0 0 0 0 0 0 0 0)]) (wr := [(h1, oX10 bm 0 0 0 0 0 0 0 0 (-1) 0 0 0 0 0 0 0 0 0), (bm 1, .inl (cI, 149, .inl (fun _ => 0))), (bm 15, .inl (cZ, 80, .inl (fun _ => 0))), (bm 16, .inl (cI, 7, .inl (fun _ => 0))), (bm 21, .inl (cZ, 80, .inl (fun _ => 0))), (bm 24, .inl (cI, 80, .inl (fun _ => 0))), (bm 25, .inl (cI, 6, .inl (fun _ => 0))), (bm 29, .inl (cI, 6, .inl (fun _ => 0))), (bm 30, .inl (cZ, 1040, .inl (fun _ => 0))), (bm 31, .inl (cI, 1040, .inl (fun _ => 0))), (bm 32, .inl (cI, 78, .inl (fun _ => 0))), (bm 27, .inl (cI, 7, .inl (fun _ => 0)))]) hP hD hS hA [0, 1] [2, 3, 4, 5, 6, 7, 8, 9, 10, 11, 12, 13] rfl rfl rfl (by decide) (va_runV (As := [.int (xs 1), .int (xs 2)]) (rest := []) ⟨hx, hb, hml, hown, hts⟩ (f_X9_joins l G cI cJ cZ cB cQ _ h0 b bc (xs 1) (xs 2)) (cwV 2 hts (gV w_774 w_775 w_776 w_1 w_777) rfl rfl rfl ⟨rfl, hd_X9_joins⟩ ⟨Nat.le_of_ble_eq_true rfl, Nat.le_of_ble_eq_true rfl⟩) (mV hK hZ hP hD [0, 1] rfl rfl [.int (xs 1), .int (xs 2)] 0 9 rfl rfl) rfl rfl hl.1 rfl (lv_room (Nat.le_of_ble_eq_true rfl)) dL_law_848 ⟨Nat.le_of_ble_eq_true rfl, Nat.le_of_ble_eq_true rfl⟩) (fun r3 u4 H locs hw5 hP hD hS => ?_)
  try dsimp only at hw5
  have hP : va_P G vwCl [(h1, oX10 bm 0 0 0 0 0 0 0 0 (-1) 0 0 0 0 0 0 0 0 0), (bm 1, .inl (cI, 149, .inl (fun _ => 0))), (bm 15, .inl (cZ, 80, .inl (fun _ => 0))), (bm 16, .inl (cI, 7, .inl (fun _ => 0))), (bm 21, .inl (cZ, 80, .inl (fun _ => 0))), (bm 24, .inl (cI, 80, .inl (fun _ => 0))), (bm 25, .inl (cI, 6, .inl (fun _ => 0))), (bm 29, .inl (cI, 6, .inl (fun _ => 0))), (bm 30, .inl (cZ, 1040, .inl (fun _ => 0))), (bm 31, .inl (cI, 1040, .inl (fun _ => 0))), (bm 32, .inl (cI, 78, .inl (fun _ => 0))), (bm 27, .inl (cI, 7, .inl (fun _ => 0))), (h0, oX9 b), (b 1, oX0 bc 0 0 0 0 0 0 0 0 0 0)] H := hP
  have hD : va_D A [(h1, oX10 bm 0 0 0 0 0 0 0 0 (-1) 0 0 0 0 0 0 0 0 0), (bm 1, .inl (cI, 149, .inl (fun _ => 0))), (bm 15, .inl (cZ, 80, .inl (fun _ => 0))), (bm 16, .inl (cI, 7, .inl (fun _ => 0))), (bm 21, .inl (cZ, 80, .inl (fun _ => 0))), (bm 24, .inl (cI, 80, .inl (fun _ => 0))), (bm 25, .inl (cI, 6, .inl (fun _ => 0))), (bm 29, .inl (cI, 6, .inl (fun _ => 0))), (bm 30, .inl (cZ, 1040, .inl (fun _ => 0))), (bm 31, .inl (cI, 1040, .inl (fun _ => 0))), (bm 32, .inl (cI, 78, .inl (fun _ => 0))), (bm 27, .inl (cI, 7, .inl (fun _ => 0))), (h0, oX9 b), (b 1, oX0 bc 0 0 0 0 0 0 0 0 0 0)] := hD
  obtain rfl : r3 = (-2) := hw5
  refine lv_aload_n hx hb dL_law_851 rfl (lv_at hl 1 rfl) ?_
  refine lv_aload_n hx hb dL_law_852 rfl (lv_at hl 3 rfl) ?_
  refine lv_iload_n hx hb dL_law_853 rfl (lv_at hl 0 rfl) ?_
  refine lv_iconst (v := 1) hx hb dL_law_854 (by decide) ?_
  refine lv_iadd hx hb dL_law_855 ?_
  refine lv_topi (fun v6 ev6 => ?_)
  obtain rfl : v6 = 1 := ev6.trans (by decide)
  refine va_sld hx hb hX hbl hbA hS (ix_in ki_1 (by omega) (by omega)) dL_law_856 ?_
  refine W.eq (g2 := F0 m 857 ls [.int (xs 1), .ref h1, .int (-2)]) rfl ?_
  refine lv_aload_n hx hb dL_law_857 rfl (lv_at hl 3 rfl) ?_
  refine lv_iload_n hx hb dL_law_858 rfl (lv_at hl 0 rfl) ?_
  refine lv_iconst (v := 2) hx hb dL_law_859 (by decide) ?_
  refine lv_iadd hx hb dL_law_860 ?_
  refine lv_topi (fun v7 ev7 => ?_)
  obtain rfl : v7 = 2 := ev7.trans (by decide)
  refine va_sld hx hb hX hbl hbA hS (ix_in ki_2 (by omega) (by omega)) dL_law_861 ?_
  refine W.eq (g2 := F0 m 862 ls [.int (xs 2), .int (xs 1), .ref h1, .int (-2)]) rfl ?_
  refine k_i (wc := [(h1, oX10 bm 0 0 0 0 0 0 0 0 (-1) 0 0 0 0 0 0 0 0 0), (bm 1, .inl (cI, 149, .inl (fun _ => 0))), (bm 15, .inl (cZ, 80, .inl (fun _ => 0))), (bm 16, .inl (cI, 7, .inl (fun _ => 0))), (bm 21, .inl (cZ, 80, .inl (fun _ => 0))), (bm 24, .inl (cI, 80, .inl (fun _ => 0))), (bm 25, .inl (cI, 6, .inl (fun _ => 0))), (bm 29, .inl (cI, 6, .inl (fun _ => 0))), (bm 30, .inl (cZ, 1040, .inl (fun _ => 0))), (bm 31, .inl (cI, 1040, .inl (fun _ => 0))), (bm 32, .inl (cI, 78, .inl (fun _ => 0))), (bm 27, .inl (cI, 7, .inl (fun _ => 0)))]) (wr := [(h0, oX9 b), (b 1, oX0 bc 0 0 0 0 0 0 0 0 0 0)]) hP hD hS hA [0, 1, 2, 3, 4, 5, 6, 7, 8, 9, 10, 11] [12, 13] rfl rfl rfl (by decide) (va_runV (As := [.int (xs 1), .int (xs 2)]) (rest := [.int (-2)]) ⟨hx, hb, hml, hown, hts⟩ (f_X10_joins l G cI cJ cZ cB cQ _ h1 bm (xs 1) (xs 2)) (cwV 2 hts (gV w_1695 w_1696 w_1697 w_11 w_1698) rfl rfl rfl ⟨rfl, hd_X10_joins⟩ ⟨Nat.le_of_ble_eq_true rfl, Nat.le_of_ble_eq_true rfl⟩) (mV hK hZ hP hD [0, 1, 2, 3, 4, 5, 6, 7, 8, 9, 10, 11] rfl rfl [.int (xs 1), .int (xs 2)] 0 10 rfl rfl) rfl rfl hl.1 rfl (lv_room (Nat.le_of_ble_eq_true rfl)) dL_law_862 ⟨Nat.le_of_ble_eq_true rfl, Nat.le_of_ble_eq_true rfl⟩) (fun r8 u9 H locs hw10 hP hD hS => ?_)
  obtain ⟨f011, rfl⟩ : ∃ z, z = u9 := ⟨_, rfl⟩
  try dsimp only at hw10
  have hP : va_P G vwCl [(h0, oX9 b), (b 1, oX0 bc 0 0 0 0 0 0 0 0 0 0), (h1, oX10 bm 0 0 0 0 0 0 0 0 (-1) 0 0 (-1) 0 0 0 0 0 0), (bm 1, .inl (cI, 149, .inl (fun _ => 0))), (bm 15, .inl (cZ, 80, .inl (fun _ => 0))), (bm 16, .inl (cI, 7, .inl (fun _ => 0))), (bm 21, .inl (cZ, 80, .inl (fun _ => 0))), (bm 24, .inl (cI, 80, .inl (fun _ => 0))), (bm 25, .inl (cI, 6, .inl (fun _ => 0))), (bm 29, .inl (cI, 6, .inl (fun _ => 0))), (bm 30, .inl (cZ, 1040, .inl (fun _ => 0))), (bm 31, .inl (cI, 1040, .inl (fun _ => 0))), (bm 32, .inl (cI, 78, .inl (fun _ => 0))), (bm 27, .inl (cI, 7, .inl f011))] H := hP
  have hD : va_D A [(h0, oX9 b), (b 1, oX0 bc 0 0 0 0 0 0 0 0 0 0), (h1, oX10 bm 0 0 0 0 0 0 0 0 (-1) 0 0 (-1) 0 0 0 0 0 0), (bm 1, .inl (cI, 149, .inl (fun _ => 0))), (bm 15, .inl (cZ, 80, .inl (fun _ => 0))), (bm 16, .inl (cI, 7, .inl (fun _ => 0))), (bm 21, .inl (cZ, 80, .inl (fun _ => 0))), (bm 24, .inl (cI, 80, .inl (fun _ => 0))), (bm 25, .inl (cI, 6, .inl (fun _ => 0))), (bm 29, .inl (cI, 6, .inl (fun _ => 0))), (bm 30, .inl (cZ, 1040, .inl (fun _ => 0))), (bm 31, .inl (cI, 1040, .inl (fun _ => 0))), (bm 32, .inl (cI, 78, .inl (fun _ => 0))), (bm 27, .inl (cI, 7, .inl f011))] := hD
  obtain rfl : r8 = (-2) := hw10
  refine lv_icmp_eq (tgt := 2226) hx hb dL_law_865 (by decide) (fun c12 => ?_) (fun c12 => absurd (by decide) c12)
  refine lv_iinc (v := 6) (lv' := [(3, .int 6), (2, .ref h1), (1, .ref h0), (0, .ref sb)]) hx hb dL_law_2226 hl (k := 0) rfl (by decide) (by decide) rfl (fun ls hl => ?_)
  refine lv_goto (tgt := 18) hx hb dL_law_2229 (by decide) ?_
  exact law_exit hL6 C0 hAe hS ls (lv_sub hl [3, 0] rfl) (by decide) (by decide)
set_option maxHeartbeats 4000000 in
set_option maxRecDepth 100000 in
theorem law_20 {p : Program} {e : Env} {s : State} {m : MethodId} {below : List Frame} {meth : Method} {c : Code} {l : Launch} {sb L : Nat} {xs : Nat → Int32} {A : Nat → Prop} {G : va_G} {cI cJ cZ cB cQ : ClassId} (h0 : Nat) (b : Nat → Nat) (br : Nat → Nat) (bt : Nat → Nat) (bi : Nat → Nat) (bc : Nat → Nat) (bn : Nat → Nat) (bs : Nat → Nat) (be : Nat → Nat) (bw : Nat → Nat) (h1 : Nat) (bm : Nat → Nat) {H : Heap} {locs : List Loc} (hL : L = 6) (C0 : lw_At p s m meth c sb L xs) (hAe : A = fun q => s.heap.size ≤ q) (hK : va_K G vwCl (TY cI cJ cZ cB cQ) s) (hZ : nz s) (hP : va_P G vwCl (wX cI cJ cZ cB cQ h0 b br bt bi bc bn bs be bw ++ wM cI cJ cZ cB cQ h1 bm) H) (hD : va_D A (wX cI cJ cZ cB cQ h0 b br bt bi bc bn bs be bw ++ wM cI cJ cZ cB cQ h1 bm)) (hS : va_S A s.heap H locs) (ls : Array Slot) (hl : lv_has ls 4 [(3, .int 0), (2, .ref h1), (1, .ref h0), (0, .ref sb)]) (v : Int32) (hv : v.toInt = 20) : W p l e room_1 s m #[Value.ref sb] below meth c H locs 88 8166 (lw_Z below #[Value.ref sb] s) (F0 m 33 ls [.int v]) := by
  have hL6 : L ≤ 6 := by omega
  obtain ⟨hx, hb, hr, hml, hown, hts0, hX, hbl, hlocks, hgv⟩ := id C0
  have hown : s.vm.findClass RL = some m.cls := hown
  have hts : ∀ q ∈ GW, q.before #[Value.ref sb] s = true := fun q h => hts0 q (List.mem_filter.mp h).1
  have hA : ∀ q : Nat, s.heap.size ≤ q → A q := fun q h => by rw [hAe]; exact h
  have hbA : ¬ A sb := by rw [hAe]; exact Nat.not_le.mpr hbl
  have hLT : (Int32.ofNat L).toInt = (L : Int) := nI_toInt (by omega)
  have hLi : (L : Int) = 6 := by omega
  refine lv_tableIn (off := 837) (tgt := 870) hx hb dL_law_33 (by rw [hv]; decide) (by rw [hv]; decide) (by rw [hv]; rfl) (by decide) ?_
  have hP : va_P G vwCl [(h0, oX9 b), (b 1, oX0 bc 0 0 0 0 0 0 0 0 0 0), (h1, oX10 bm 0 0 0 0 0 0 0 0 (-1) 0 0 0 0 0 0 0 0 0), (bm 1, .inl (cI, 149, .inl (fun _ => 0))), (bm 15, .inl (cZ, 80, .inl (fun _ => 0))), (bm 16, .inl (cI, 7, .inl (fun _ => 0))), (bm 21, .inl (cZ, 80, .inl (fun _ => 0))), (bm 24, .inl (cI, 80, .inl (fun _ => 0))), (bm 25, .inl (cI, 6, .inl (fun _ => 0))), (bm 29, .inl (cI, 6, .inl (fun _ => 0))), (bm 30, .inl (cZ, 1040, .inl (fun _ => 0))), (bm 31, .inl (cI, 1040, .inl (fun _ => 0))), (bm 32, .inl (cI, 78, .inl (fun _ => 0))), (bm 27, .inl (cI, 7, .inl (fun _ => 0)))] H := hP.sub [0, 14, 59, 60, 66, 67, 68, 71, 72, 76, 77, 78, 79, 74] rfl
  have hD : va_D A [(h0, oX9 b), (b 1, oX0 bc 0 0 0 0 0 0 0 0 0 0), (h1, oX10 bm 0 0 0 0 0 0 0 0 (-1) 0 0 0 0 0 0 0 0 0), (bm 1, .inl (cI, 149, .inl (fun _ => 0))), (bm 15, .inl (cZ, 80, .inl (fun _ => 0))), (bm 16, .inl (cI, 7, .inl (fun _ => 0))), (bm 21, .inl (cZ, 80, .inl (fun _ => 0))), (bm 24, .inl (cI, 80, .inl (fun _ => 0))), (bm 25, .inl (cI, 6, .inl (fun _ => 0))), (bm 29, .inl (cI, 6, .inl (fun _ => 0))), (bm 30, .inl (cZ, 1040, .inl (fun _ => 0))), (bm 31, .inl (cI, 1040, .inl (fun _ => 0))), (bm 32, .inl (cI, 78, .inl (fun _ => 0))), (bm 27, .inl (cI, 7, .inl (fun _ => 0)))] := hD.sub [0, 14, 59, 60, 66, 67, 68, 71, 72, 76, 77, 78, 79, 74] rfl rfl
  refine lv_aload_n hx hb dL_law_870 rfl (lv_at hl 2 rfl) ?_
  refine lv_aload_n hx hb dL_law_871 rfl (lv_at hl 3 rfl) ?_
  refine lv_iload_n hx hb dL_law_872 rfl (lv_at hl 0 rfl) ?_
  refine lv_iconst (v := 1) hx hb dL_law_873 (by decide) ?_
  refine lv_iadd hx hb dL_law_874 ?_
  refine lv_topi (fun v1 ev1 => ?_)
  obtain rfl : v1 = 1 := ev1.trans (by decide)
  refine va_sld hx hb hX hbl hbA hS (ix_in ki_1 (by omega) (by omega)) dL_law_875 ?_
  refine W.eq (g2 := F0 m 876 ls [.int (xs 1), .ref h0]) rfl ?_
  refine lv_aload_n hx hb dL_law_876 rfl (lv_at hl 3 rfl) ?_
  refine lv_iload_n hx hb dL_law_877 rfl (lv_at hl 0 rfl) ?_
  refine lv_iconst (v := 2) hx hb dL_law_878 (by decide) ?_
  refine lv_iadd hx hb dL_law_879 ?_
  refine lv_topi (fun v2 ev2 => ?_)
  obtain rfl : v2 = 2 := ev2.trans (by decide)
  refine va_sld hx hb hX hbl hbA hS (ix_in ki_2 (by omega) (by omega)) dL_law_880 ?_
  refine W.eq (g2 := F0 m 881 ls [.int (xs 2), .int (xs 1), .ref h0]) rfl ?_
  refine k_i (wc := [(h0, oX9 b), (b 1, oX0 bc 0 0 0 0 0 0 0 0 0 0)]) (wr := [(h1, oX10 bm 0 0 0 0 0 0 0 0 (-1) 0 0 0 0 0 0 0 0 0), (bm 1, .inl (cI, 149, .inl (fun _ => 0))), (bm 15, .inl (cZ, 80, .inl (fun _ => 0))), (bm 16, .inl (cI, 7, .inl (fun _ => 0))), (bm 21, .inl (cZ, 80, .inl (fun _ => 0))), (bm 24, .inl (cI, 80, .inl (fun _ => 0))), (bm 25, .inl (cI, 6, .inl (fun _ => 0))), (bm 29, .inl (cI, 6, .inl (fun _ => 0))), (bm 30, .inl (cZ, 1040, .inl (fun _ => 0))), (bm 31, .inl (cI, 1040, .inl (fun _ => 0))), (bm 32, .inl (cI, 78, .inl (fun _ => 0))), (bm 27, .inl (cI, 7, .inl (fun _ => 0)))]) hP hD hS hA [0, 1] [2, 3, 4, 5, 6, 7, 8, 9, 10, 11, 12, 13] rfl rfl rfl (by decide) (va_runV (As := [.int (xs 1), .int (xs 2)]) (rest := []) ⟨hx, hb, hml, hown, hts⟩ (f_X9_corners l G cI cJ cZ cB cQ _ h0 b bc (xs 1) (xs 2)) (cwV 2 hts (gV w_788 w_789 w_790 w_1 w_791) rfl rfl rfl ⟨rfl, hd_X9_corners⟩ ⟨Nat.le_of_ble_eq_true rfl, Nat.le_of_ble_eq_true rfl⟩) (mV hK hZ hP hD [0, 1] rfl rfl [.int (xs 1), .int (xs 2)] 0 9 rfl rfl) rfl rfl hl.1 rfl (lv_room (Nat.le_of_ble_eq_true rfl)) dL_law_881 ⟨Nat.le_of_ble_eq_true rfl, Nat.le_of_ble_eq_true rfl⟩) (fun r3 u4 H locs hw5 hP hD hS => ?_)
  try dsimp only at hw5
  have hP : va_P G vwCl [(h1, oX10 bm 0 0 0 0 0 0 0 0 (-1) 0 0 0 0 0 0 0 0 0), (bm 1, .inl (cI, 149, .inl (fun _ => 0))), (bm 15, .inl (cZ, 80, .inl (fun _ => 0))), (bm 16, .inl (cI, 7, .inl (fun _ => 0))), (bm 21, .inl (cZ, 80, .inl (fun _ => 0))), (bm 24, .inl (cI, 80, .inl (fun _ => 0))), (bm 25, .inl (cI, 6, .inl (fun _ => 0))), (bm 29, .inl (cI, 6, .inl (fun _ => 0))), (bm 30, .inl (cZ, 1040, .inl (fun _ => 0))), (bm 31, .inl (cI, 1040, .inl (fun _ => 0))), (bm 32, .inl (cI, 78, .inl (fun _ => 0))), (bm 27, .inl (cI, 7, .inl (fun _ => 0))), (h0, oX9 b), (b 1, oX0 bc 0 0 0 0 0 0 0 0 0 0)] H := hP
  have hD : va_D A [(h1, oX10 bm 0 0 0 0 0 0 0 0 (-1) 0 0 0 0 0 0 0 0 0), (bm 1, .inl (cI, 149, .inl (fun _ => 0))), (bm 15, .inl (cZ, 80, .inl (fun _ => 0))), (bm 16, .inl (cI, 7, .inl (fun _ => 0))), (bm 21, .inl (cZ, 80, .inl (fun _ => 0))), (bm 24, .inl (cI, 80, .inl (fun _ => 0))), (bm 25, .inl (cI, 6, .inl (fun _ => 0))), (bm 29, .inl (cI, 6, .inl (fun _ => 0))), (bm 30, .inl (cZ, 1040, .inl (fun _ => 0))), (bm 31, .inl (cI, 1040, .inl (fun _ => 0))), (bm 32, .inl (cI, 78, .inl (fun _ => 0))), (bm 27, .inl (cI, 7, .inl (fun _ => 0))), (h0, oX9 b), (b 1, oX0 bc 0 0 0 0 0 0 0 0 0 0)] := hD
  obtain rfl : r3 = (-2) := hw5
  refine lv_aload_n hx hb dL_law_884 rfl (lv_at hl 1 rfl) ?_
  refine lv_aload_n hx hb dL_law_885 rfl (lv_at hl 3 rfl) ?_
  refine lv_iload_n hx hb dL_law_886 rfl (lv_at hl 0 rfl) ?_
  refine lv_iconst (v := 1) hx hb dL_law_887 (by decide) ?_
  refine lv_iadd hx hb dL_law_888 ?_
  refine lv_topi (fun v6 ev6 => ?_)
  obtain rfl : v6 = 1 := ev6.trans (by decide)
  refine va_sld hx hb hX hbl hbA hS (ix_in ki_1 (by omega) (by omega)) dL_law_889 ?_
  refine W.eq (g2 := F0 m 890 ls [.int (xs 1), .ref h1, .int (-2)]) rfl ?_
  refine lv_aload_n hx hb dL_law_890 rfl (lv_at hl 3 rfl) ?_
  refine lv_iload_n hx hb dL_law_891 rfl (lv_at hl 0 rfl) ?_
  refine lv_iconst (v := 2) hx hb dL_law_892 (by decide) ?_
  refine lv_iadd hx hb dL_law_893 ?_
  refine lv_topi (fun v7 ev7 => ?_)
  obtain rfl : v7 = 2 := ev7.trans (by decide)
  refine va_sld hx hb hX hbl hbA hS (ix_in ki_2 (by omega) (by omega)) dL_law_894 ?_
  refine W.eq (g2 := F0 m 895 ls [.int (xs 2), .int (xs 1), .ref h1, .int (-2)]) rfl ?_
  refine k_i (wc := [(h1, oX10 bm 0 0 0 0 0 0 0 0 (-1) 0 0 0 0 0 0 0 0 0), (bm 1, .inl (cI, 149, .inl (fun _ => 0))), (bm 15, .inl (cZ, 80, .inl (fun _ => 0))), (bm 16, .inl (cI, 7, .inl (fun _ => 0))), (bm 21, .inl (cZ, 80, .inl (fun _ => 0))), (bm 24, .inl (cI, 80, .inl (fun _ => 0))), (bm 25, .inl (cI, 6, .inl (fun _ => 0))), (bm 29, .inl (cI, 6, .inl (fun _ => 0))), (bm 30, .inl (cZ, 1040, .inl (fun _ => 0))), (bm 31, .inl (cI, 1040, .inl (fun _ => 0))), (bm 32, .inl (cI, 78, .inl (fun _ => 0))), (bm 27, .inl (cI, 7, .inl (fun _ => 0)))]) (wr := [(h0, oX9 b), (b 1, oX0 bc 0 0 0 0 0 0 0 0 0 0)]) hP hD hS hA [0, 1, 2, 3, 4, 5, 6, 7, 8, 9, 10, 11] [12, 13] rfl rfl rfl (by decide) (va_runV (As := [.int (xs 1), .int (xs 2)]) (rest := [.int (-2)]) ⟨hx, hb, hml, hown, hts⟩ (f_X10_corners l G cI cJ cZ cB cQ _ h1 bm (xs 1) (xs 2)) (cwV 2 hts (gV w_1699 w_1700 w_1701 w_11 w_1702) rfl rfl rfl ⟨rfl, hd_X10_corners⟩ ⟨Nat.le_of_ble_eq_true rfl, Nat.le_of_ble_eq_true rfl⟩) (mV hK hZ hP hD [0, 1, 2, 3, 4, 5, 6, 7, 8, 9, 10, 11] rfl rfl [.int (xs 1), .int (xs 2)] 0 10 rfl rfl) rfl rfl hl.1 rfl (lv_room (Nat.le_of_ble_eq_true rfl)) dL_law_895 ⟨Nat.le_of_ble_eq_true rfl, Nat.le_of_ble_eq_true rfl⟩) (fun r8 u9 H locs hw10 hP hD hS => ?_)
  obtain ⟨f011, rfl⟩ : ∃ z, z = u9 := ⟨_, rfl⟩
  try dsimp only at hw10
  have hP : va_P G vwCl [(h0, oX9 b), (b 1, oX0 bc 0 0 0 0 0 0 0 0 0 0), (h1, oX10 bm 0 0 0 0 0 0 0 0 (-1) 0 0 (-1) 0 0 0 0 0 0), (bm 1, .inl (cI, 149, .inl (fun _ => 0))), (bm 15, .inl (cZ, 80, .inl (fun _ => 0))), (bm 16, .inl (cI, 7, .inl (fun _ => 0))), (bm 21, .inl (cZ, 80, .inl (fun _ => 0))), (bm 24, .inl (cI, 80, .inl (fun _ => 0))), (bm 25, .inl (cI, 6, .inl (fun _ => 0))), (bm 29, .inl (cI, 6, .inl (fun _ => 0))), (bm 30, .inl (cZ, 1040, .inl (fun _ => 0))), (bm 31, .inl (cI, 1040, .inl (fun _ => 0))), (bm 32, .inl (cI, 78, .inl (fun _ => 0))), (bm 27, .inl (cI, 7, .inl f011))] H := hP
  have hD : va_D A [(h0, oX9 b), (b 1, oX0 bc 0 0 0 0 0 0 0 0 0 0), (h1, oX10 bm 0 0 0 0 0 0 0 0 (-1) 0 0 (-1) 0 0 0 0 0 0), (bm 1, .inl (cI, 149, .inl (fun _ => 0))), (bm 15, .inl (cZ, 80, .inl (fun _ => 0))), (bm 16, .inl (cI, 7, .inl (fun _ => 0))), (bm 21, .inl (cZ, 80, .inl (fun _ => 0))), (bm 24, .inl (cI, 80, .inl (fun _ => 0))), (bm 25, .inl (cI, 6, .inl (fun _ => 0))), (bm 29, .inl (cI, 6, .inl (fun _ => 0))), (bm 30, .inl (cZ, 1040, .inl (fun _ => 0))), (bm 31, .inl (cI, 1040, .inl (fun _ => 0))), (bm 32, .inl (cI, 78, .inl (fun _ => 0))), (bm 27, .inl (cI, 7, .inl f011))] := hD
  obtain rfl : r8 = (-2) := hw10
  refine lv_icmp_eq (tgt := 2226) hx hb dL_law_898 (by decide) (fun c12 => ?_) (fun c12 => absurd (by decide) c12)
  refine lv_iinc (v := 6) (lv' := [(3, .int 6), (2, .ref h1), (1, .ref h0), (0, .ref sb)]) hx hb dL_law_2226 hl (k := 0) rfl (by decide) (by decide) rfl (fun ls hl => ?_)
  refine lv_goto (tgt := 18) hx hb dL_law_2229 (by decide) ?_
  exact law_exit hL6 C0 hAe hS ls (lv_sub hl [3, 0] rfl) (by decide) (by decide)
set_option maxHeartbeats 4000000 in
set_option maxRecDepth 100000 in
theorem law_21 {p : Program} {e : Env} {s : State} {m : MethodId} {below : List Frame} {meth : Method} {c : Code} {l : Launch} {sb L : Nat} {xs : Nat → Int32} {A : Nat → Prop} {G : va_G} {cI cJ cZ cB cQ : ClassId} (h0 : Nat) (b : Nat → Nat) (br : Nat → Nat) (bt : Nat → Nat) (bi : Nat → Nat) (bc : Nat → Nat) (bn : Nat → Nat) (bs : Nat → Nat) (be : Nat → Nat) (bw : Nat → Nat) (h1 : Nat) (bm : Nat → Nat) {H : Heap} {locs : List Loc} (hL : L = 6) (C0 : lw_At p s m meth c sb L xs) (hAe : A = fun q => s.heap.size ≤ q) (hK : va_K G vwCl (TY cI cJ cZ cB cQ) s) (hZ : nz s) (hP : va_P G vwCl (wX cI cJ cZ cB cQ h0 b br bt bi bc bn bs be bw ++ wM cI cJ cZ cB cQ h1 bm) H) (hD : va_D A (wX cI cJ cZ cB cQ h0 b br bt bi bc bn bs be bw ++ wM cI cJ cZ cB cQ h1 bm)) (hS : va_S A s.heap H locs) (ls : Array Slot) (hl : lv_has ls 4 [(3, .int 0), (2, .ref h1), (1, .ref h0), (0, .ref sb)]) (v : Int32) (hv : v.toInt = 21) : W p l e room_1 s m #[Value.ref sb] below meth c H locs 88 8166 (lw_Z below #[Value.ref sb] s) (F0 m 33 ls [.int v]) := by
  have hL6 : L ≤ 6 := by omega
  obtain ⟨hx, hb, hr, hml, hown, hts0, hX, hbl, hlocks, hgv⟩ := id C0
  have hown : s.vm.findClass RL = some m.cls := hown
  have hts : ∀ q ∈ GW, q.before #[Value.ref sb] s = true := fun q h => hts0 q (List.mem_filter.mp h).1
  have hA : ∀ q : Nat, s.heap.size ≤ q → A q := fun q h => by rw [hAe]; exact h
  have hbA : ¬ A sb := by rw [hAe]; exact Nat.not_le.mpr hbl
  have hLT : (Int32.ofNat L).toInt = (L : Int) := nI_toInt (by omega)
  have hLi : (L : Int) = 6 := by omega
  refine lv_tableIn (off := 870) (tgt := 903) hx hb dL_law_33 (by rw [hv]; decide) (by rw [hv]; decide) (by rw [hv]; rfl) (by decide) ?_
  have hP : va_P G vwCl [(h0, oX9 b), (b 1, oX0 bc 0 0 0 0 0 0 0 0 0 0), (h1, oX10 bm 0 0 0 0 0 0 0 0 (-1) 0 0 0 0 0 0 0 0 0), (bm 1, .inl (cI, 149, .inl (fun _ => 0))), (bm 15, .inl (cZ, 80, .inl (fun _ => 0))), (bm 16, .inl (cI, 7, .inl (fun _ => 0))), (bm 21, .inl (cZ, 80, .inl (fun _ => 0))), (bm 24, .inl (cI, 80, .inl (fun _ => 0))), (bm 25, .inl (cI, 6, .inl (fun _ => 0))), (bm 29, .inl (cI, 6, .inl (fun _ => 0))), (bm 30, .inl (cZ, 1040, .inl (fun _ => 0))), (bm 31, .inl (cI, 1040, .inl (fun _ => 0))), (bm 32, .inl (cI, 78, .inl (fun _ => 0))), (bm 27, .inl (cI, 7, .inl (fun _ => 0)))] H := hP.sub [0, 14, 59, 60, 66, 67, 68, 71, 72, 76, 77, 78, 79, 74] rfl
  have hD : va_D A [(h0, oX9 b), (b 1, oX0 bc 0 0 0 0 0 0 0 0 0 0), (h1, oX10 bm 0 0 0 0 0 0 0 0 (-1) 0 0 0 0 0 0 0 0 0), (bm 1, .inl (cI, 149, .inl (fun _ => 0))), (bm 15, .inl (cZ, 80, .inl (fun _ => 0))), (bm 16, .inl (cI, 7, .inl (fun _ => 0))), (bm 21, .inl (cZ, 80, .inl (fun _ => 0))), (bm 24, .inl (cI, 80, .inl (fun _ => 0))), (bm 25, .inl (cI, 6, .inl (fun _ => 0))), (bm 29, .inl (cI, 6, .inl (fun _ => 0))), (bm 30, .inl (cZ, 1040, .inl (fun _ => 0))), (bm 31, .inl (cI, 1040, .inl (fun _ => 0))), (bm 32, .inl (cI, 78, .inl (fun _ => 0))), (bm 27, .inl (cI, 7, .inl (fun _ => 0)))] := hD.sub [0, 14, 59, 60, 66, 67, 68, 71, 72, 76, 77, 78, 79, 74] rfl rfl
  refine lv_aload_n hx hb dL_law_903 rfl (lv_at hl 2 rfl) ?_
  refine lv_aload_n hx hb dL_law_904 rfl (lv_at hl 3 rfl) ?_
  refine lv_iload_n hx hb dL_law_905 rfl (lv_at hl 0 rfl) ?_
  refine lv_iconst (v := 1) hx hb dL_law_906 (by decide) ?_
  refine lv_iadd hx hb dL_law_907 ?_
  refine lv_topi (fun v1 ev1 => ?_)
  obtain rfl : v1 = 1 := ev1.trans (by decide)
  refine va_sld hx hb hX hbl hbA hS (ix_in ki_1 (by omega) (by omega)) dL_law_908 ?_
  refine W.eq (g2 := F0 m 909 ls [.int (xs 1), .ref h0]) rfl ?_
  refine k_i (wc := [(h0, oX9 b), (b 1, oX0 bc 0 0 0 0 0 0 0 0 0 0)]) (wr := [(h1, oX10 bm 0 0 0 0 0 0 0 0 (-1) 0 0 0 0 0 0 0 0 0), (bm 1, .inl (cI, 149, .inl (fun _ => 0))), (bm 15, .inl (cZ, 80, .inl (fun _ => 0))), (bm 16, .inl (cI, 7, .inl (fun _ => 0))), (bm 21, .inl (cZ, 80, .inl (fun _ => 0))), (bm 24, .inl (cI, 80, .inl (fun _ => 0))), (bm 25, .inl (cI, 6, .inl (fun _ => 0))), (bm 29, .inl (cI, 6, .inl (fun _ => 0))), (bm 30, .inl (cZ, 1040, .inl (fun _ => 0))), (bm 31, .inl (cI, 1040, .inl (fun _ => 0))), (bm 32, .inl (cI, 78, .inl (fun _ => 0))), (bm 27, .inl (cI, 7, .inl (fun _ => 0)))]) hP hD hS hA [0, 1] [2, 3, 4, 5, 6, 7, 8, 9, 10, 11, 12, 13] rfl rfl rfl (by decide) (va_runV (As := [.int (xs 1)]) (rest := []) ⟨hx, hb, hml, hown, hts⟩ (f_X9_nets l G cI cJ cZ cB cQ _ h0 b bc (xs 1)) (cwV 1 hts (gV w_803 w_804 w_805 w_1 w_806) rfl rfl rfl ⟨rfl, hd_X9_nets⟩ ⟨Nat.le_of_ble_eq_true rfl, Nat.le_of_ble_eq_true rfl⟩) (mV hK hZ hP hD [0, 1] rfl rfl [.int (xs 1)] 0 9 rfl rfl) rfl rfl hl.1 rfl (lv_room (Nat.le_of_ble_eq_true rfl)) dL_law_909 ⟨Nat.le_of_ble_eq_true rfl, Nat.le_of_ble_eq_true rfl⟩) (fun r2 u3 H locs hw4 hP hD hS => ?_)
  try dsimp only at hw4
  have hP : va_P G vwCl [(h1, oX10 bm 0 0 0 0 0 0 0 0 (-1) 0 0 0 0 0 0 0 0 0), (bm 1, .inl (cI, 149, .inl (fun _ => 0))), (bm 15, .inl (cZ, 80, .inl (fun _ => 0))), (bm 16, .inl (cI, 7, .inl (fun _ => 0))), (bm 21, .inl (cZ, 80, .inl (fun _ => 0))), (bm 24, .inl (cI, 80, .inl (fun _ => 0))), (bm 25, .inl (cI, 6, .inl (fun _ => 0))), (bm 29, .inl (cI, 6, .inl (fun _ => 0))), (bm 30, .inl (cZ, 1040, .inl (fun _ => 0))), (bm 31, .inl (cI, 1040, .inl (fun _ => 0))), (bm 32, .inl (cI, 78, .inl (fun _ => 0))), (bm 27, .inl (cI, 7, .inl (fun _ => 0))), (h0, oX9 b), (b 1, oX0 bc 0 0 0 0 0 0 0 0 0 0)] H := hP
  have hD : va_D A [(h1, oX10 bm 0 0 0 0 0 0 0 0 (-1) 0 0 0 0 0 0 0 0 0), (bm 1, .inl (cI, 149, .inl (fun _ => 0))), (bm 15, .inl (cZ, 80, .inl (fun _ => 0))), (bm 16, .inl (cI, 7, .inl (fun _ => 0))), (bm 21, .inl (cZ, 80, .inl (fun _ => 0))), (bm 24, .inl (cI, 80, .inl (fun _ => 0))), (bm 25, .inl (cI, 6, .inl (fun _ => 0))), (bm 29, .inl (cI, 6, .inl (fun _ => 0))), (bm 30, .inl (cZ, 1040, .inl (fun _ => 0))), (bm 31, .inl (cI, 1040, .inl (fun _ => 0))), (bm 32, .inl (cI, 78, .inl (fun _ => 0))), (bm 27, .inl (cI, 7, .inl (fun _ => 0))), (h0, oX9 b), (b 1, oX0 bc 0 0 0 0 0 0 0 0 0 0)] := hD
  obtain rfl : r2 = (-2) := hw4
  refine lv_aload_n hx hb dL_law_912 rfl (lv_at hl 1 rfl) ?_
  refine lv_aload_n hx hb dL_law_913 rfl (lv_at hl 3 rfl) ?_
  refine lv_iload_n hx hb dL_law_914 rfl (lv_at hl 0 rfl) ?_
  refine lv_iconst (v := 1) hx hb dL_law_915 (by decide) ?_
  refine lv_iadd hx hb dL_law_916 ?_
  refine lv_topi (fun v5 ev5 => ?_)
  obtain rfl : v5 = 1 := ev5.trans (by decide)
  refine va_sld hx hb hX hbl hbA hS (ix_in ki_1 (by omega) (by omega)) dL_law_917 ?_
  refine W.eq (g2 := F0 m 918 ls [.int (xs 1), .ref h1, .int (-2)]) rfl ?_
  refine k_i (wc := [(h1, oX10 bm 0 0 0 0 0 0 0 0 (-1) 0 0 0 0 0 0 0 0 0), (bm 1, .inl (cI, 149, .inl (fun _ => 0))), (bm 15, .inl (cZ, 80, .inl (fun _ => 0))), (bm 16, .inl (cI, 7, .inl (fun _ => 0))), (bm 21, .inl (cZ, 80, .inl (fun _ => 0))), (bm 24, .inl (cI, 80, .inl (fun _ => 0))), (bm 25, .inl (cI, 6, .inl (fun _ => 0))), (bm 29, .inl (cI, 6, .inl (fun _ => 0))), (bm 30, .inl (cZ, 1040, .inl (fun _ => 0))), (bm 31, .inl (cI, 1040, .inl (fun _ => 0))), (bm 32, .inl (cI, 78, .inl (fun _ => 0))), (bm 27, .inl (cI, 7, .inl (fun _ => 0)))]) (wr := [(h0, oX9 b), (b 1, oX0 bc 0 0 0 0 0 0 0 0 0 0)]) hP hD hS hA [0, 1, 2, 3, 4, 5, 6, 7, 8, 9, 10, 11] [12, 13] rfl rfl rfl (by decide) (va_runV (As := [.int (xs 1)]) (rest := [.int (-2)]) ⟨hx, hb, hml, hown, hts⟩ (f_X10_nets l G cI cJ cZ cB cQ _ h1 bm (xs 1)) (cwV 1 hts (gV w_1703 w_1704 w_1705 w_11 w_1706) rfl rfl rfl ⟨rfl, hd_X10_nets⟩ ⟨Nat.le_of_ble_eq_true rfl, Nat.le_of_ble_eq_true rfl⟩) (mV hK hZ hP hD [0, 1, 2, 3, 4, 5, 6, 7, 8, 9, 10, 11] rfl rfl [.int (xs 1)] 0 10 rfl rfl) rfl rfl hl.1 rfl (lv_room (Nat.le_of_ble_eq_true rfl)) dL_law_918 ⟨Nat.le_of_ble_eq_true rfl, Nat.le_of_ble_eq_true rfl⟩) (fun r6 u7 H locs hw8 hP hD hS => ?_)
  obtain ⟨f09, rfl⟩ : ∃ z, z = u7 := ⟨_, rfl⟩
  try dsimp only at hw8
  have hP : va_P G vwCl [(h0, oX9 b), (b 1, oX0 bc 0 0 0 0 0 0 0 0 0 0), (h1, oX10 bm 0 0 0 0 0 0 0 0 (-1) 0 0 (-1) 0 0 0 0 0 0), (bm 1, .inl (cI, 149, .inl (fun _ => 0))), (bm 15, .inl (cZ, 80, .inl (fun _ => 0))), (bm 16, .inl (cI, 7, .inl (fun _ => 0))), (bm 21, .inl (cZ, 80, .inl (fun _ => 0))), (bm 24, .inl (cI, 80, .inl (fun _ => 0))), (bm 25, .inl (cI, 6, .inl (fun _ => 0))), (bm 29, .inl (cI, 6, .inl (fun _ => 0))), (bm 30, .inl (cZ, 1040, .inl (fun _ => 0))), (bm 31, .inl (cI, 1040, .inl (fun _ => 0))), (bm 32, .inl (cI, 78, .inl (fun _ => 0))), (bm 27, .inl (cI, 7, .inl f09))] H := hP
  have hD : va_D A [(h0, oX9 b), (b 1, oX0 bc 0 0 0 0 0 0 0 0 0 0), (h1, oX10 bm 0 0 0 0 0 0 0 0 (-1) 0 0 (-1) 0 0 0 0 0 0), (bm 1, .inl (cI, 149, .inl (fun _ => 0))), (bm 15, .inl (cZ, 80, .inl (fun _ => 0))), (bm 16, .inl (cI, 7, .inl (fun _ => 0))), (bm 21, .inl (cZ, 80, .inl (fun _ => 0))), (bm 24, .inl (cI, 80, .inl (fun _ => 0))), (bm 25, .inl (cI, 6, .inl (fun _ => 0))), (bm 29, .inl (cI, 6, .inl (fun _ => 0))), (bm 30, .inl (cZ, 1040, .inl (fun _ => 0))), (bm 31, .inl (cI, 1040, .inl (fun _ => 0))), (bm 32, .inl (cI, 78, .inl (fun _ => 0))), (bm 27, .inl (cI, 7, .inl f09))] := hD
  obtain rfl : r6 = (-2) := hw8
  refine lv_icmp_eq (tgt := 2226) hx hb dL_law_921 (by decide) (fun c10 => ?_) (fun c10 => absurd (by decide) c10)
  refine lv_iinc (v := 6) (lv' := [(3, .int 6), (2, .ref h1), (1, .ref h0), (0, .ref sb)]) hx hb dL_law_2226 hl (k := 0) rfl (by decide) (by decide) rfl (fun ls hl => ?_)
  refine lv_goto (tgt := 18) hx hb dL_law_2229 (by decide) ?_
  exact law_exit hL6 C0 hAe hS ls (lv_sub hl [3, 0] rfl) (by decide) (by decide)
set_option maxHeartbeats 4000000 in
set_option maxRecDepth 100000 in
theorem law_22 {p : Program} {e : Env} {s : State} {m : MethodId} {below : List Frame} {meth : Method} {c : Code} {l : Launch} {sb L : Nat} {xs : Nat → Int32} {A : Nat → Prop} {G : va_G} {cI cJ cZ cB cQ : ClassId} (h0 : Nat) (b : Nat → Nat) (br : Nat → Nat) (bt : Nat → Nat) (bi : Nat → Nat) (bc : Nat → Nat) (bn : Nat → Nat) (bs : Nat → Nat) (be : Nat → Nat) (bw : Nat → Nat) (h1 : Nat) (bm : Nat → Nat) {H : Heap} {locs : List Loc} (hL : L = 6) (C0 : lw_At p s m meth c sb L xs) (hAe : A = fun q => s.heap.size ≤ q) (hK : va_K G vwCl (TY cI cJ cZ cB cQ) s) (hZ : nz s) (hP : va_P G vwCl (wX cI cJ cZ cB cQ h0 b br bt bi bc bn bs be bw ++ wM cI cJ cZ cB cQ h1 bm) H) (hD : va_D A (wX cI cJ cZ cB cQ h0 b br bt bi bc bn bs be bw ++ wM cI cJ cZ cB cQ h1 bm)) (hS : va_S A s.heap H locs) (ls : Array Slot) (hl : lv_has ls 4 [(3, .int 0), (2, .ref h1), (1, .ref h0), (0, .ref sb)]) (v : Int32) (hv : v.toInt = 22) : W p l e room_1 s m #[Value.ref sb] below meth c H locs 88 8166 (lw_Z below #[Value.ref sb] s) (F0 m 33 ls [.int v]) := by
  have hL6 : L ≤ 6 := by omega
  obtain ⟨hx, hb, hr, hml, hown, hts0, hX, hbl, hlocks, hgv⟩ := id C0
  have hown : s.vm.findClass RL = some m.cls := hown
  have hts : ∀ q ∈ GW, q.before #[Value.ref sb] s = true := fun q h => hts0 q (List.mem_filter.mp h).1
  have hA : ∀ q : Nat, s.heap.size ≤ q → A q := fun q h => by rw [hAe]; exact h
  have hbA : ¬ A sb := by rw [hAe]; exact Nat.not_le.mpr hbl
  have hLT : (Int32.ofNat L).toInt = (L : Int) := nI_toInt (by omega)
  have hLi : (L : Int) = 6 := by omega
  refine lv_tableIn (off := 893) (tgt := 926) hx hb dL_law_33 (by rw [hv]; decide) (by rw [hv]; decide) (by rw [hv]; rfl) (by decide) ?_
  have hP : va_P G vwCl [(h0, oX9 b), (b 1, oX0 bc 0 0 0 0 0 0 0 0 0 0), (h1, oX10 bm 0 0 0 0 0 0 0 0 (-1) 0 0 0 0 0 0 0 0 0), (bm 1, .inl (cI, 149, .inl (fun _ => 0))), (bm 15, .inl (cZ, 80, .inl (fun _ => 0))), (bm 16, .inl (cI, 7, .inl (fun _ => 0))), (bm 21, .inl (cZ, 80, .inl (fun _ => 0))), (bm 24, .inl (cI, 80, .inl (fun _ => 0))), (bm 25, .inl (cI, 6, .inl (fun _ => 0))), (bm 29, .inl (cI, 6, .inl (fun _ => 0))), (bm 30, .inl (cZ, 1040, .inl (fun _ => 0))), (bm 31, .inl (cI, 1040, .inl (fun _ => 0))), (bm 32, .inl (cI, 78, .inl (fun _ => 0))), (bm 27, .inl (cI, 7, .inl (fun _ => 0)))] H := hP.sub [0, 14, 59, 60, 66, 67, 68, 71, 72, 76, 77, 78, 79, 74] rfl
  have hD : va_D A [(h0, oX9 b), (b 1, oX0 bc 0 0 0 0 0 0 0 0 0 0), (h1, oX10 bm 0 0 0 0 0 0 0 0 (-1) 0 0 0 0 0 0 0 0 0), (bm 1, .inl (cI, 149, .inl (fun _ => 0))), (bm 15, .inl (cZ, 80, .inl (fun _ => 0))), (bm 16, .inl (cI, 7, .inl (fun _ => 0))), (bm 21, .inl (cZ, 80, .inl (fun _ => 0))), (bm 24, .inl (cI, 80, .inl (fun _ => 0))), (bm 25, .inl (cI, 6, .inl (fun _ => 0))), (bm 29, .inl (cI, 6, .inl (fun _ => 0))), (bm 30, .inl (cZ, 1040, .inl (fun _ => 0))), (bm 31, .inl (cI, 1040, .inl (fun _ => 0))), (bm 32, .inl (cI, 78, .inl (fun _ => 0))), (bm 27, .inl (cI, 7, .inl (fun _ => 0)))] := hD.sub [0, 14, 59, 60, 66, 67, 68, 71, 72, 76, 77, 78, 79, 74] rfl rfl
  refine lv_aload_n hx hb dL_law_926 rfl (lv_at hl 2 rfl) ?_
  refine lv_aload_n hx hb dL_law_927 rfl (lv_at hl 3 rfl) ?_
  refine lv_iload_n hx hb dL_law_928 rfl (lv_at hl 0 rfl) ?_
  refine lv_iconst (v := 1) hx hb dL_law_929 (by decide) ?_
  refine lv_iadd hx hb dL_law_930 ?_
  refine lv_topi (fun v1 ev1 => ?_)
  obtain rfl : v1 = 1 := ev1.trans (by decide)
  refine va_sld hx hb hX hbl hbA hS (ix_in ki_1 (by omega) (by omega)) dL_law_931 ?_
  refine W.eq (g2 := F0 m 932 ls [.int (xs 1), .ref h0]) rfl ?_
  refine k_i (wc := [(h0, oX9 b), (b 1, oX0 bc 0 0 0 0 0 0 0 0 0 0)]) (wr := [(h1, oX10 bm 0 0 0 0 0 0 0 0 (-1) 0 0 0 0 0 0 0 0 0), (bm 1, .inl (cI, 149, .inl (fun _ => 0))), (bm 15, .inl (cZ, 80, .inl (fun _ => 0))), (bm 16, .inl (cI, 7, .inl (fun _ => 0))), (bm 21, .inl (cZ, 80, .inl (fun _ => 0))), (bm 24, .inl (cI, 80, .inl (fun _ => 0))), (bm 25, .inl (cI, 6, .inl (fun _ => 0))), (bm 29, .inl (cI, 6, .inl (fun _ => 0))), (bm 30, .inl (cZ, 1040, .inl (fun _ => 0))), (bm 31, .inl (cI, 1040, .inl (fun _ => 0))), (bm 32, .inl (cI, 78, .inl (fun _ => 0))), (bm 27, .inl (cI, 7, .inl (fun _ => 0)))]) hP hD hS hA [0, 1] [2, 3, 4, 5, 6, 7, 8, 9, 10, 11, 12, 13] rfl rfl rfl (by decide) (va_runV (As := [.int (xs 1)]) (rest := []) ⟨hx, hb, hml, hown, hts⟩ (f_X9_missing l G cI cJ cZ cB cQ _ h0 b bc (xs 1)) (cwV 1 hts (gV w_817 w_818 w_819 w_1 w_820) rfl rfl rfl ⟨rfl, hd_X9_missing⟩ ⟨Nat.le_of_ble_eq_true rfl, Nat.le_of_ble_eq_true rfl⟩) (mV hK hZ hP hD [0, 1] rfl rfl [.int (xs 1)] 0 9 rfl rfl) rfl rfl hl.1 rfl (lv_room (Nat.le_of_ble_eq_true rfl)) dL_law_932 ⟨Nat.le_of_ble_eq_true rfl, Nat.le_of_ble_eq_true rfl⟩) (fun r2 u3 H locs hw4 hP hD hS => ?_)
  try dsimp only at hw4
  have hP : va_P G vwCl [(h1, oX10 bm 0 0 0 0 0 0 0 0 (-1) 0 0 0 0 0 0 0 0 0), (bm 1, .inl (cI, 149, .inl (fun _ => 0))), (bm 15, .inl (cZ, 80, .inl (fun _ => 0))), (bm 16, .inl (cI, 7, .inl (fun _ => 0))), (bm 21, .inl (cZ, 80, .inl (fun _ => 0))), (bm 24, .inl (cI, 80, .inl (fun _ => 0))), (bm 25, .inl (cI, 6, .inl (fun _ => 0))), (bm 29, .inl (cI, 6, .inl (fun _ => 0))), (bm 30, .inl (cZ, 1040, .inl (fun _ => 0))), (bm 31, .inl (cI, 1040, .inl (fun _ => 0))), (bm 32, .inl (cI, 78, .inl (fun _ => 0))), (bm 27, .inl (cI, 7, .inl (fun _ => 0))), (h0, oX9 b), (b 1, oX0 bc 0 0 0 0 0 0 0 0 0 0)] H := hP
  have hD : va_D A [(h1, oX10 bm 0 0 0 0 0 0 0 0 (-1) 0 0 0 0 0 0 0 0 0), (bm 1, .inl (cI, 149, .inl (fun _ => 0))), (bm 15, .inl (cZ, 80, .inl (fun _ => 0))), (bm 16, .inl (cI, 7, .inl (fun _ => 0))), (bm 21, .inl (cZ, 80, .inl (fun _ => 0))), (bm 24, .inl (cI, 80, .inl (fun _ => 0))), (bm 25, .inl (cI, 6, .inl (fun _ => 0))), (bm 29, .inl (cI, 6, .inl (fun _ => 0))), (bm 30, .inl (cZ, 1040, .inl (fun _ => 0))), (bm 31, .inl (cI, 1040, .inl (fun _ => 0))), (bm 32, .inl (cI, 78, .inl (fun _ => 0))), (bm 27, .inl (cI, 7, .inl (fun _ => 0))), (h0, oX9 b), (b 1, oX0 bc 0 0 0 0 0 0 0 0 0 0)] := hD
  obtain rfl : r2 = (-2) := hw4
  refine lv_aload_n hx hb dL_law_935 rfl (lv_at hl 1 rfl) ?_
  refine lv_aload_n hx hb dL_law_936 rfl (lv_at hl 3 rfl) ?_
  refine lv_iload_n hx hb dL_law_937 rfl (lv_at hl 0 rfl) ?_
  refine lv_iconst (v := 1) hx hb dL_law_938 (by decide) ?_
  refine lv_iadd hx hb dL_law_939 ?_
  refine lv_topi (fun v5 ev5 => ?_)
  obtain rfl : v5 = 1 := ev5.trans (by decide)
  refine va_sld hx hb hX hbl hbA hS (ix_in ki_1 (by omega) (by omega)) dL_law_940 ?_
  refine W.eq (g2 := F0 m 941 ls [.int (xs 1), .ref h1, .int (-2)]) rfl ?_
  refine k_i (wc := [(h1, oX10 bm 0 0 0 0 0 0 0 0 (-1) 0 0 0 0 0 0 0 0 0), (bm 1, .inl (cI, 149, .inl (fun _ => 0))), (bm 15, .inl (cZ, 80, .inl (fun _ => 0))), (bm 16, .inl (cI, 7, .inl (fun _ => 0))), (bm 21, .inl (cZ, 80, .inl (fun _ => 0))), (bm 24, .inl (cI, 80, .inl (fun _ => 0))), (bm 25, .inl (cI, 6, .inl (fun _ => 0))), (bm 29, .inl (cI, 6, .inl (fun _ => 0))), (bm 30, .inl (cZ, 1040, .inl (fun _ => 0))), (bm 31, .inl (cI, 1040, .inl (fun _ => 0))), (bm 32, .inl (cI, 78, .inl (fun _ => 0))), (bm 27, .inl (cI, 7, .inl (fun _ => 0)))]) (wr := [(h0, oX9 b), (b 1, oX0 bc 0 0 0 0 0 0 0 0 0 0)]) hP hD hS hA [0, 1, 2, 3, 4, 5, 6, 7, 8, 9, 10, 11] [12, 13] rfl rfl rfl (by decide) (va_runV (As := [.int (xs 1)]) (rest := [.int (-2)]) ⟨hx, hb, hml, hown, hts⟩ (f_X10_missing l G cI cJ cZ cB cQ _ h1 bm (xs 1)) (cwV 1 hts (gV w_1711 w_1712 w_1713 w_11 w_1714) rfl rfl rfl ⟨rfl, hd_X10_missing⟩ ⟨Nat.le_of_ble_eq_true rfl, Nat.le_of_ble_eq_true rfl⟩) (mV hK hZ hP hD [0, 1, 2, 3, 4, 5, 6, 7, 8, 9, 10, 11] rfl rfl [.int (xs 1)] 0 10 rfl rfl) rfl rfl hl.1 rfl (lv_room (Nat.le_of_ble_eq_true rfl)) dL_law_941 ⟨Nat.le_of_ble_eq_true rfl, Nat.le_of_ble_eq_true rfl⟩) (fun r6 u7 H locs hw8 hP hD hS => ?_)
  obtain ⟨f09, rfl⟩ : ∃ z, z = u7 := ⟨_, rfl⟩
  try dsimp only at hw8
  have hP : va_P G vwCl [(h0, oX9 b), (b 1, oX0 bc 0 0 0 0 0 0 0 0 0 0), (h1, oX10 bm 0 0 0 0 0 0 0 0 (-1) 0 0 (-1) 0 0 0 0 0 0), (bm 1, .inl (cI, 149, .inl (fun _ => 0))), (bm 15, .inl (cZ, 80, .inl (fun _ => 0))), (bm 16, .inl (cI, 7, .inl (fun _ => 0))), (bm 21, .inl (cZ, 80, .inl (fun _ => 0))), (bm 24, .inl (cI, 80, .inl (fun _ => 0))), (bm 25, .inl (cI, 6, .inl (fun _ => 0))), (bm 29, .inl (cI, 6, .inl (fun _ => 0))), (bm 30, .inl (cZ, 1040, .inl (fun _ => 0))), (bm 31, .inl (cI, 1040, .inl (fun _ => 0))), (bm 32, .inl (cI, 78, .inl (fun _ => 0))), (bm 27, .inl (cI, 7, .inl f09))] H := hP
  have hD : va_D A [(h0, oX9 b), (b 1, oX0 bc 0 0 0 0 0 0 0 0 0 0), (h1, oX10 bm 0 0 0 0 0 0 0 0 (-1) 0 0 (-1) 0 0 0 0 0 0), (bm 1, .inl (cI, 149, .inl (fun _ => 0))), (bm 15, .inl (cZ, 80, .inl (fun _ => 0))), (bm 16, .inl (cI, 7, .inl (fun _ => 0))), (bm 21, .inl (cZ, 80, .inl (fun _ => 0))), (bm 24, .inl (cI, 80, .inl (fun _ => 0))), (bm 25, .inl (cI, 6, .inl (fun _ => 0))), (bm 29, .inl (cI, 6, .inl (fun _ => 0))), (bm 30, .inl (cZ, 1040, .inl (fun _ => 0))), (bm 31, .inl (cI, 1040, .inl (fun _ => 0))), (bm 32, .inl (cI, 78, .inl (fun _ => 0))), (bm 27, .inl (cI, 7, .inl f09))] := hD
  obtain rfl : r6 = (-2) := hw8
  refine lv_icmp_eq (tgt := 2226) hx hb dL_law_944 (by decide) (fun c10 => ?_) (fun c10 => absurd (by decide) c10)
  refine lv_iinc (v := 6) (lv' := [(3, .int 6), (2, .ref h1), (1, .ref h0), (0, .ref sb)]) hx hb dL_law_2226 hl (k := 0) rfl (by decide) (by decide) rfl (fun ls hl => ?_)
  refine lv_goto (tgt := 18) hx hb dL_law_2229 (by decide) ?_
  exact law_exit hL6 C0 hAe hS ls (lv_sub hl [3, 0] rfl) (by decide) (by decide)
