/-! THE LAW: instructions -/
theorem eL_734 : decode ML.2.1 734 = .ok (.iconst 3, 1) := by decide +kernel
theorem eL_735 : decode ML.2.1 735 = .ok (.iadd, 1) := by decide +kernel
theorem eL_736 : decode ML.2.1 736 = .ok (.iaload, 1) := by decide +kernel
theorem eL_737 : decode ML.2.1 737 = .ok (.aload_n 0, 1) := by decide +kernel
theorem eL_738 : decode ML.2.1 738 = .ok (.iload_n 3, 1) := by decide +kernel
theorem eL_739 : decode ML.2.1 739 = .ok (.iconst 4, 1) := by decide +kernel
theorem eL_740 : decode ML.2.1 740 = .ok (.iadd, 1) := by decide +kernel
theorem eL_741 : decode ML.2.1 741 = .ok (.iaload, 1) := by decide +kernel
theorem eL_742 : decode ML.2.1 742 = .ok (.invokevirtual 82, 3) := by decide +kernel
theorem eL_745 : decode ML.2.1 745 = .ok (.if_icmp .eq 564, 3) := by decide +kernel
theorem eL_750 : decode ML.2.1 750 = .ok (.aload_n 1, 1) := by decide +kernel
theorem eL_751 : decode ML.2.1 751 = .ok (.aload_n 0, 1) := by decide +kernel
theorem eL_752 : decode ML.2.1 752 = .ok (.iload_n 3, 1) := by decide +kernel
theorem eL_753 : decode ML.2.1 753 = .ok (.iconst 1, 1) := by decide +kernel
theorem eL_754 : decode ML.2.1 754 = .ok (.iadd, 1) := by decide +kernel
theorem eL_755 : decode ML.2.1 755 = .ok (.iaload, 1) := by decide +kernel
theorem eL_756 : decode ML.2.1 756 = .ok (.aload_n 0, 1) := by decide +kernel
theorem eL_757 : decode ML.2.1 757 = .ok (.iload_n 3, 1) := by decide +kernel
theorem eL_758 : decode ML.2.1 758 = .ok (.iconst 2, 1) := by decide +kernel
theorem eL_759 : decode ML.2.1 759 = .ok (.iadd, 1) := by decide +kernel
theorem eL_760 : decode ML.2.1 760 = .ok (.iaload, 1) := by decide +kernel
theorem eL_761 : decode ML.2.1 761 = .ok (.aload_n 0, 1) := by decide +kernel
theorem eL_762 : decode ML.2.1 762 = .ok (.iload_n 3, 1) := by decide +kernel
theorem eL_763 : decode ML.2.1 763 = .ok (.iconst 3, 1) := by decide +kernel
theorem eL_764 : decode ML.2.1 764 = .ok (.iadd, 1) := by decide +kernel
theorem eL_765 : decode ML.2.1 765 = .ok (.iaload, 1) := by decide +kernel
theorem eL_766 : decode ML.2.1 766 = .ok (.aload_n 0, 1) := by decide +kernel
theorem eL_767 : decode ML.2.1 767 = .ok (.iload_n 3, 1) := by decide +kernel
theorem eL_768 : decode ML.2.1 768 = .ok (.iconst 4, 1) := by decide +kernel
theorem eL_769 : decode ML.2.1 769 = .ok (.iadd, 1) := by decide +kernel
theorem eL_770 : decode ML.2.1 770 = .ok (.iaload, 1) := by decide +kernel
theorem eL_771 : decode ML.2.1 771 = .ok (.invokevirtual 83, 3) := by decide +kernel
theorem eL_774 : decode ML.2.1 774 = .ok (.aload_n 2, 1) := by decide +kernel
theorem eL_775 : decode ML.2.1 775 = .ok (.aload_n 0, 1) := by decide +kernel
theorem eL_776 : decode ML.2.1 776 = .ok (.iload_n 3, 1) := by decide +kernel
theorem eL_777 : decode ML.2.1 777 = .ok (.iconst 1, 1) := by decide +kernel
theorem eL_778 : decode ML.2.1 778 = .ok (.iadd, 1) := by decide +kernel
theorem eL_779 : decode ML.2.1 779 = .ok (.iaload, 1) := by decide +kernel
theorem eL_780 : decode ML.2.1 780 = .ok (.aload_n 0, 1) := by decide +kernel
theorem eL_781 : decode ML.2.1 781 = .ok (.iload_n 3, 1) := by decide +kernel
theorem eL_782 : decode ML.2.1 782 = .ok (.iconst 2, 1) := by decide +kernel
theorem eL_783 : decode ML.2.1 783 = .ok (.iadd, 1) := by decide +kernel
theorem eL_784 : decode ML.2.1 784 = .ok (.iaload, 1) := by decide +kernel
theorem eL_785 : decode ML.2.1 785 = .ok (.aload_n 0, 1) := by decide +kernel
theorem eL_786 : decode ML.2.1 786 = .ok (.iload_n 3, 1) := by decide +kernel
theorem eL_787 : decode ML.2.1 787 = .ok (.iconst 3, 1) := by decide +kernel
theorem eL_788 : decode ML.2.1 788 = .ok (.iadd, 1) := by decide +kernel
theorem eL_789 : decode ML.2.1 789 = .ok (.iaload, 1) := by decide +kernel
theorem eL_790 : decode ML.2.1 790 = .ok (.aload_n 0, 1) := by decide +kernel
theorem eL_791 : decode ML.2.1 791 = .ok (.iload_n 3, 1) := by decide +kernel
theorem eL_792 : decode ML.2.1 792 = .ok (.iconst 4, 1) := by decide +kernel
theorem eL_793 : decode ML.2.1 793 = .ok (.iadd, 1) := by decide +kernel
theorem eL_794 : decode ML.2.1 794 = .ok (.iaload, 1) := by decide +kernel
theorem eL_795 : decode ML.2.1 795 = .ok (.invokevirtual 87, 3) := by decide +kernel
theorem eL_798 : decode ML.2.1 798 = .ok (.lcmp, 1) := by decide +kernel
theorem eL_799 : decode ML.2.1 799 = .ok (.ifCond .eq 510, 3) := by decide +kernel
theorem eL_804 : decode ML.2.1 804 = .ok (.aload_n 1, 1) := by decide +kernel
theorem eL_805 : decode ML.2.1 805 = .ok (.aload_n 0, 1) := by decide +kernel
theorem eL_806 : decode ML.2.1 806 = .ok (.iload_n 3, 1) := by decide +kernel
theorem eL_807 : decode ML.2.1 807 = .ok (.iconst 1, 1) := by decide +kernel
theorem eL_808 : decode ML.2.1 808 = .ok (.iadd, 1) := by decide +kernel
theorem eL_809 : decode ML.2.1 809 = .ok (.iaload, 1) := by decide +kernel
theorem eL_810 : decode ML.2.1 810 = .ok (.aload_n 0, 1) := by decide +kernel
theorem eL_811 : decode ML.2.1 811 = .ok (.iload_n 3, 1) := by decide +kernel
theorem eL_812 : decode ML.2.1 812 = .ok (.iconst 2, 1) := by decide +kernel
theorem eL_813 : decode ML.2.1 813 = .ok (.iadd, 1) := by decide +kernel
theorem eL_814 : decode ML.2.1 814 = .ok (.iaload, 1) := by decide +kernel
theorem eL_815 : decode ML.2.1 815 = .ok (.aload_n 0, 1) := by decide +kernel
theorem eL_816 : decode ML.2.1 816 = .ok (.iload_n 3, 1) := by decide +kernel
theorem eL_817 : decode ML.2.1 817 = .ok (.iconst 3, 1) := by decide +kernel
theorem eL_818 : decode ML.2.1 818 = .ok (.iadd, 1) := by decide +kernel
theorem eL_819 : decode ML.2.1 819 = .ok (.iaload, 1) := by decide +kernel
theorem eL_820 : decode ML.2.1 820 = .ok (.invokevirtual 88, 3) := by decide +kernel
theorem eL_823 : decode ML.2.1 823 = .ok (.aload_n 2, 1) := by decide +kernel
theorem eL_824 : decode ML.2.1 824 = .ok (.aload_n 0, 1) := by decide +kernel
theorem eL_825 : decode ML.2.1 825 = .ok (.iload_n 3, 1) := by decide +kernel
theorem eL_826 : decode ML.2.1 826 = .ok (.iconst 1, 1) := by decide +kernel
theorem eL_827 : decode ML.2.1 827 = .ok (.iadd, 1) := by decide +kernel
theorem eL_828 : decode ML.2.1 828 = .ok (.iaload, 1) := by decide +kernel
theorem eL_829 : decode ML.2.1 829 = .ok (.aload_n 0, 1) := by decide +kernel
theorem eL_830 : decode ML.2.1 830 = .ok (.iload_n 3, 1) := by decide +kernel
theorem eL_831 : decode ML.2.1 831 = .ok (.iconst 2, 1) := by decide +kernel
theorem eL_832 : decode ML.2.1 832 = .ok (.iadd, 1) := by decide +kernel
theorem eL_833 : decode ML.2.1 833 = .ok (.iaload, 1) := by decide +kernel
theorem eL_834 : decode ML.2.1 834 = .ok (.aload_n 0, 1) := by decide +kernel
theorem eL_835 : decode ML.2.1 835 = .ok (.iload_n 3, 1) := by decide +kernel
theorem eL_836 : decode ML.2.1 836 = .ok (.iconst 3, 1) := by decide +kernel
theorem eL_837 : decode ML.2.1 837 = .ok (.iadd, 1) := by decide +kernel
theorem eL_838 : decode ML.2.1 838 = .ok (.iaload, 1) := by decide +kernel
theorem eL_839 : decode ML.2.1 839 = .ok (.invokevirtual 91, 3) := by decide +kernel
theorem eL_842 : decode ML.2.1 842 = .ok (.if_icmp .eq 467, 3) := by decide +kernel
theorem eL_847 : decode ML.2.1 847 = .ok (.aload_n 1, 1) := by decide +kernel
theorem eL_848 : decode ML.2.1 848 = .ok (.aload_n 0, 1) := by decide +kernel
theorem eL_849 : decode ML.2.1 849 = .ok (.iload_n 3, 1) := by decide +kernel
theorem eL_850 : decode ML.2.1 850 = .ok (.iconst 1, 1) := by decide +kernel
theorem eL_851 : decode ML.2.1 851 = .ok (.iadd, 1) := by decide +kernel
theorem eL_852 : decode ML.2.1 852 = .ok (.iaload, 1) := by decide +kernel
theorem eL_853 : decode ML.2.1 853 = .ok (.aload_n 0, 1) := by decide +kernel
theorem eL_854 : decode ML.2.1 854 = .ok (.iload_n 3, 1) := by decide +kernel
theorem eL_855 : decode ML.2.1 855 = .ok (.iconst 2, 1) := by decide +kernel
theorem eL_856 : decode ML.2.1 856 = .ok (.iadd, 1) := by decide +kernel
theorem eL_857 : decode ML.2.1 857 = .ok (.iaload, 1) := by decide +kernel
theorem eL_858 : decode ML.2.1 858 = .ok (.invokevirtual 92, 3) := by decide +kernel
theorem eL_861 : decode ML.2.1 861 = .ok (.aload_n 2, 1) := by decide +kernel
theorem eL_862 : decode ML.2.1 862 = .ok (.aload_n 0, 1) := by decide +kernel
theorem eL_863 : decode ML.2.1 863 = .ok (.iload_n 3, 1) := by decide +kernel
theorem eL_864 : decode ML.2.1 864 = .ok (.iconst 1, 1) := by decide +kernel
theorem eL_865 : decode ML.2.1 865 = .ok (.iadd, 1) := by decide +kernel
theorem eL_866 : decode ML.2.1 866 = .ok (.iaload, 1) := by decide +kernel
theorem eL_867 : decode ML.2.1 867 = .ok (.aload_n 0, 1) := by decide +kernel
theorem eL_868 : decode ML.2.1 868 = .ok (.iload_n 3, 1) := by decide +kernel
theorem eL_869 : decode ML.2.1 869 = .ok (.iconst 2, 1) := by decide +kernel
theorem eL_870 : decode ML.2.1 870 = .ok (.iadd, 1) := by decide +kernel
theorem eL_871 : decode ML.2.1 871 = .ok (.iaload, 1) := by decide +kernel
theorem eL_872 : decode ML.2.1 872 = .ok (.invokevirtual 96, 3) := by decide +kernel
theorem eL_875 : decode ML.2.1 875 = .ok (.lcmp, 1) := by decide +kernel
theorem eL_876 : decode ML.2.1 876 = .ok (.ifCond .eq 433, 3) := by decide +kernel
theorem eL_881 : decode ML.2.1 881 = .ok (.aload_n 1, 1) := by decide +kernel
theorem eL_882 : decode ML.2.1 882 = .ok (.aload_n 0, 1) := by decide +kernel
theorem eL_883 : decode ML.2.1 883 = .ok (.iload_n 3, 1) := by decide +kernel
theorem eL_884 : decode ML.2.1 884 = .ok (.iconst 1, 1) := by decide +kernel
theorem eL_885 : decode ML.2.1 885 = .ok (.iadd, 1) := by decide +kernel
theorem eL_886 : decode ML.2.1 886 = .ok (.iaload, 1) := by decide +kernel
theorem eL_887 : decode ML.2.1 887 = .ok (.aload_n 0, 1) := by decide +kernel
theorem eL_888 : decode ML.2.1 888 = .ok (.iload_n 3, 1) := by decide +kernel
theorem eL_889 : decode ML.2.1 889 = .ok (.iconst 2, 1) := by decide +kernel
theorem eL_890 : decode ML.2.1 890 = .ok (.iadd, 1) := by decide +kernel
theorem eL_891 : decode ML.2.1 891 = .ok (.iaload, 1) := by decide +kernel
theorem eL_892 : decode ML.2.1 892 = .ok (.invokevirtual 97, 3) := by decide +kernel
theorem eL_895 : decode ML.2.1 895 = .ok (.aload_n 2, 1) := by decide +kernel
theorem eL_896 : decode ML.2.1 896 = .ok (.aload_n 0, 1) := by decide +kernel
theorem eL_897 : decode ML.2.1 897 = .ok (.iload_n 3, 1) := by decide +kernel
theorem eL_898 : decode ML.2.1 898 = .ok (.iconst 1, 1) := by decide +kernel
theorem eL_899 : decode ML.2.1 899 = .ok (.iadd, 1) := by decide +kernel
theorem eL_900 : decode ML.2.1 900 = .ok (.iaload, 1) := by decide +kernel
theorem eL_901 : decode ML.2.1 901 = .ok (.aload_n 0, 1) := by decide +kernel
theorem eL_902 : decode ML.2.1 902 = .ok (.iload_n 3, 1) := by decide +kernel
theorem eL_903 : decode ML.2.1 903 = .ok (.iconst 2, 1) := by decide +kernel
theorem eL_904 : decode ML.2.1 904 = .ok (.iadd, 1) := by decide +kernel
theorem eL_905 : decode ML.2.1 905 = .ok (.iaload, 1) := by decide +kernel
theorem eL_906 : decode ML.2.1 906 = .ok (.invokevirtual 100, 3) := by decide +kernel
theorem eL_909 : decode ML.2.1 909 = .ok (.lcmp, 1) := by decide +kernel
theorem eL_910 : decode ML.2.1 910 = .ok (.ifCond .eq 399, 3) := by decide +kernel
theorem eL_915 : decode ML.2.1 915 = .ok (.aload_n 1, 1) := by decide +kernel
theorem eL_916 : decode ML.2.1 916 = .ok (.aload_n 0, 1) := by decide +kernel
theorem eL_917 : decode ML.2.1 917 = .ok (.iload_n 3, 1) := by decide +kernel
theorem eL_918 : decode ML.2.1 918 = .ok (.iconst 1, 1) := by decide +kernel
theorem eL_919 : decode ML.2.1 919 = .ok (.iadd, 1) := by decide +kernel
theorem eL_920 : decode ML.2.1 920 = .ok (.iaload, 1) := by decide +kernel
theorem eL_921 : decode ML.2.1 921 = .ok (.aload_n 0, 1) := by decide +kernel
theorem eL_922 : decode ML.2.1 922 = .ok (.iload_n 3, 1) := by decide +kernel
theorem eL_923 : decode ML.2.1 923 = .ok (.iconst 2, 1) := by decide +kernel
theorem eL_924 : decode ML.2.1 924 = .ok (.iadd, 1) := by decide +kernel
theorem eL_925 : decode ML.2.1 925 = .ok (.iaload, 1) := by decide +kernel
theorem eL_926 : decode ML.2.1 926 = .ok (.invokevirtual 101, 3) := by decide +kernel
theorem eL_929 : decode ML.2.1 929 = .ok (.aload_n 2, 1) := by decide +kernel
theorem eL_930 : decode ML.2.1 930 = .ok (.aload_n 0, 1) := by decide +kernel
theorem eL_931 : decode ML.2.1 931 = .ok (.iload_n 3, 1) := by decide +kernel
theorem eL_932 : decode ML.2.1 932 = .ok (.iconst 1, 1) := by decide +kernel
theorem eL_933 : decode ML.2.1 933 = .ok (.iadd, 1) := by decide +kernel
theorem eL_934 : decode ML.2.1 934 = .ok (.iaload, 1) := by decide +kernel
theorem eL_935 : decode ML.2.1 935 = .ok (.aload_n 0, 1) := by decide +kernel
theorem eL_936 : decode ML.2.1 936 = .ok (.iload_n 3, 1) := by decide +kernel
theorem eL_937 : decode ML.2.1 937 = .ok (.iconst 2, 1) := by decide +kernel
theorem eL_938 : decode ML.2.1 938 = .ok (.iadd, 1) := by decide +kernel
theorem eL_939 : decode ML.2.1 939 = .ok (.iaload, 1) := by decide +kernel
theorem eL_940 : decode ML.2.1 940 = .ok (.invokevirtual 104, 3) := by decide +kernel
theorem eL_943 : decode ML.2.1 943 = .ok (.if_icmp .eq 366, 3) := by decide +kernel
theorem eL_948 : decode ML.2.1 948 = .ok (.aload_n 1, 1) := by decide +kernel
theorem eL_949 : decode ML.2.1 949 = .ok (.aload_n 0, 1) := by decide +kernel
theorem eL_950 : decode ML.2.1 950 = .ok (.iload_n 3, 1) := by decide +kernel
theorem eL_951 : decode ML.2.1 951 = .ok (.iconst 1, 1) := by decide +kernel
theorem eL_952 : decode ML.2.1 952 = .ok (.iadd, 1) := by decide +kernel
theorem eL_953 : decode ML.2.1 953 = .ok (.iaload, 1) := by decide +kernel
theorem eL_954 : decode ML.2.1 954 = .ok (.aload_n 0, 1) := by decide +kernel
theorem eL_955 : decode ML.2.1 955 = .ok (.iload_n 3, 1) := by decide +kernel
theorem eL_956 : decode ML.2.1 956 = .ok (.iconst 2, 1) := by decide +kernel
theorem eL_957 : decode ML.2.1 957 = .ok (.iadd, 1) := by decide +kernel
theorem eL_958 : decode ML.2.1 958 = .ok (.iaload, 1) := by decide +kernel
theorem eL_959 : decode ML.2.1 959 = .ok (.invokevirtual 105, 3) := by decide +kernel
theorem eL_962 : decode ML.2.1 962 = .ok (.aload_n 2, 1) := by decide +kernel
theorem eL_963 : decode ML.2.1 963 = .ok (.aload_n 0, 1) := by decide +kernel
theorem eL_964 : decode ML.2.1 964 = .ok (.iload_n 3, 1) := by decide +kernel
theorem eL_965 : decode ML.2.1 965 = .ok (.iconst 1, 1) := by decide +kernel
theorem eL_966 : decode ML.2.1 966 = .ok (.iadd, 1) := by decide +kernel
theorem eL_967 : decode ML.2.1 967 = .ok (.iaload, 1) := by decide +kernel
theorem eL_968 : decode ML.2.1 968 = .ok (.aload_n 0, 1) := by decide +kernel
theorem eL_969 : decode ML.2.1 969 = .ok (.iload_n 3, 1) := by decide +kernel
theorem eL_970 : decode ML.2.1 970 = .ok (.iconst 2, 1) := by decide +kernel
theorem eL_971 : decode ML.2.1 971 = .ok (.iadd, 1) := by decide +kernel
theorem eL_972 : decode ML.2.1 972 = .ok (.iaload, 1) := by decide +kernel
theorem eL_973 : decode ML.2.1 973 = .ok (.invokevirtual 108, 3) := by decide +kernel
theorem eL_976 : decode ML.2.1 976 = .ok (.if_icmp .eq 333, 3) := by decide +kernel
theorem eL_981 : decode ML.2.1 981 = .ok (.aload_n 1, 1) := by decide +kernel
theorem eL_982 : decode ML.2.1 982 = .ok (.aload_n 0, 1) := by decide +kernel
theorem eL_983 : decode ML.2.1 983 = .ok (.iload_n 3, 1) := by decide +kernel
theorem eL_984 : decode ML.2.1 984 = .ok (.iconst 1, 1) := by decide +kernel
theorem eL_985 : decode ML.2.1 985 = .ok (.iadd, 1) := by decide +kernel
theorem eL_986 : decode ML.2.1 986 = .ok (.iaload, 1) := by decide +kernel
theorem eL_987 : decode ML.2.1 987 = .ok (.invokevirtual 109, 3) := by decide +kernel
theorem eL_990 : decode ML.2.1 990 = .ok (.aload_n 2, 1) := by decide +kernel
theorem eL_991 : decode ML.2.1 991 = .ok (.aload_n 0, 1) := by decide +kernel
theorem eL_992 : decode ML.2.1 992 = .ok (.iload_n 3, 1) := by decide +kernel
theorem eL_993 : decode ML.2.1 993 = .ok (.iconst 1, 1) := by decide +kernel
theorem eL_994 : decode ML.2.1 994 = .ok (.iadd, 1) := by decide +kernel
theorem eL_995 : decode ML.2.1 995 = .ok (.iaload, 1) := by decide +kernel
theorem eL_996 : decode ML.2.1 996 = .ok (.invokevirtual 112, 3) := by decide +kernel
theorem eL_999 : decode ML.2.1 999 = .ok (.if_icmp .eq 310, 3) := by decide +kernel
theorem eL_1004 : decode ML.2.1 1004 = .ok (.aload_n 1, 1) := by decide +kernel
theorem eL_1005 : decode ML.2.1 1005 = .ok (.aload_n 0, 1) := by decide +kernel
theorem eL_1006 : decode ML.2.1 1006 = .ok (.iload_n 3, 1) := by decide +kernel
theorem eL_1007 : decode ML.2.1 1007 = .ok (.iconst 1, 1) := by decide +kernel
theorem eL_1008 : decode ML.2.1 1008 = .ok (.iadd, 1) := by decide +kernel
theorem eL_1009 : decode ML.2.1 1009 = .ok (.iaload, 1) := by decide +kernel
theorem eL_1010 : decode ML.2.1 1010 = .ok (.aload_n 0, 1) := by decide +kernel
theorem eL_1011 : decode ML.2.1 1011 = .ok (.iload_n 3, 1) := by decide +kernel
theorem eL_1012 : decode ML.2.1 1012 = .ok (.iconst 2, 1) := by decide +kernel
theorem eL_1013 : decode ML.2.1 1013 = .ok (.iadd, 1) := by decide +kernel
theorem eL_1014 : decode ML.2.1 1014 = .ok (.iaload, 1) := by decide +kernel
theorem eL_1015 : decode ML.2.1 1015 = .ok (.invokevirtual 113, 3) := by decide +kernel
theorem eL_1018 : decode ML.2.1 1018 = .ok (.aload_n 2, 1) := by decide +kernel
theorem eL_1019 : decode ML.2.1 1019 = .ok (.aload_n 0, 1) := by decide +kernel
theorem eL_1020 : decode ML.2.1 1020 = .ok (.iload_n 3, 1) := by decide +kernel
theorem eL_1021 : decode ML.2.1 1021 = .ok (.iconst 1, 1) := by decide +kernel
theorem eL_1022 : decode ML.2.1 1022 = .ok (.iadd, 1) := by decide +kernel
theorem eL_1023 : decode ML.2.1 1023 = .ok (.iaload, 1) := by decide +kernel
theorem eL_1024 : decode ML.2.1 1024 = .ok (.aload_n 0, 1) := by decide +kernel
