/-! the law: decode rows (printed by gen/law.py) -/
theorem d_La_law_766 : decode code 766 = .ok (.invokevirtual 102, 3) := by decide +kernel
theorem d_La_law_769 : decode code 769 = .ok (.aload_n 2, 1) := by decide +kernel
theorem d_La_law_770 : decode code 770 = .ok (.aload_n 0, 1) := by decide +kernel
theorem d_La_law_771 : decode code 771 = .ok (.iload_n 3, 1) := by decide +kernel
theorem d_La_law_772 : decode code 772 = .ok (.iconst 1, 1) := by decide +kernel
theorem d_La_law_773 : decode code 773 = .ok (.iadd, 1) := by decide +kernel
theorem d_La_law_774 : decode code 774 = .ok (.iaload, 1) := by decide +kernel
theorem d_La_law_775 : decode code 775 = .ok (.aload_n 0, 1) := by decide +kernel
theorem d_La_law_776 : decode code 776 = .ok (.iload_n 3, 1) := by decide +kernel
theorem d_La_law_777 : decode code 777 = .ok (.iconst 2, 1) := by decide +kernel
theorem d_La_law_778 : decode code 778 = .ok (.iadd, 1) := by decide +kernel
theorem d_La_law_779 : decode code 779 = .ok (.iaload, 1) := by decide +kernel
theorem d_La_law_780 : decode code 780 = .ok (.invokevirtual 105, 3) := by decide +kernel
theorem d_La_law_783 : decode code 783 = .ok (.if_icmp .eq 503, 3) := by decide +kernel
theorem d_La_law_786 : decode code 786 = .ok (.iconst 0, 1) := by decide +kernel
theorem d_La_law_787 : decode code 787 = .ok (.ireturn, 1) := by decide +kernel
theorem d_La_law_788 : decode code 788 = .ok (.aload_n 1, 1) := by decide +kernel
theorem d_La_law_789 : decode code 789 = .ok (.aload_n 0, 1) := by decide +kernel
theorem d_La_law_790 : decode code 790 = .ok (.iload_n 3, 1) := by decide +kernel
theorem d_La_law_791 : decode code 791 = .ok (.iconst 1, 1) := by decide +kernel
theorem d_La_law_792 : decode code 792 = .ok (.iadd, 1) := by decide +kernel
theorem d_La_law_793 : decode code 793 = .ok (.iaload, 1) := by decide +kernel
theorem d_La_law_794 : decode code 794 = .ok (.aload_n 0, 1) := by decide +kernel
theorem d_La_law_795 : decode code 795 = .ok (.iload_n 3, 1) := by decide +kernel
theorem d_La_law_796 : decode code 796 = .ok (.iconst 2, 1) := by decide +kernel
theorem d_La_law_797 : decode code 797 = .ok (.iadd, 1) := by decide +kernel
theorem d_La_law_798 : decode code 798 = .ok (.iaload, 1) := by decide +kernel
theorem d_La_law_799 : decode code 799 = .ok (.invokevirtual 106, 3) := by decide +kernel
theorem d_La_law_802 : decode code 802 = .ok (.aload_n 2, 1) := by decide +kernel
theorem d_La_law_803 : decode code 803 = .ok (.aload_n 0, 1) := by decide +kernel
theorem d_La_law_804 : decode code 804 = .ok (.iload_n 3, 1) := by decide +kernel
theorem d_La_law_805 : decode code 805 = .ok (.iconst 1, 1) := by decide +kernel
theorem d_La_law_806 : decode code 806 = .ok (.iadd, 1) := by decide +kernel
theorem d_La_law_807 : decode code 807 = .ok (.iaload, 1) := by decide +kernel
theorem d_La_law_808 : decode code 808 = .ok (.aload_n 0, 1) := by decide +kernel
theorem d_La_law_809 : decode code 809 = .ok (.iload_n 3, 1) := by decide +kernel
theorem d_La_law_810 : decode code 810 = .ok (.iconst 2, 1) := by decide +kernel
theorem d_La_law_811 : decode code 811 = .ok (.iadd, 1) := by decide +kernel
theorem d_La_law_812 : decode code 812 = .ok (.iaload, 1) := by decide +kernel
theorem d_La_law_813 : decode code 813 = .ok (.invokevirtual 109, 3) := by decide +kernel
theorem d_La_law_816 : decode code 816 = .ok (.if_icmp .eq 470, 3) := by decide +kernel
theorem d_La_law_819 : decode code 819 = .ok (.iconst 0, 1) := by decide +kernel
theorem d_La_law_820 : decode code 820 = .ok (.ireturn, 1) := by decide +kernel
theorem d_La_law_821 : decode code 821 = .ok (.aload_n 1, 1) := by decide +kernel
theorem d_La_law_822 : decode code 822 = .ok (.aload_n 0, 1) := by decide +kernel
theorem d_La_law_823 : decode code 823 = .ok (.iload_n 3, 1) := by decide +kernel
theorem d_La_law_824 : decode code 824 = .ok (.iconst 1, 1) := by decide +kernel
theorem d_La_law_825 : decode code 825 = .ok (.iadd, 1) := by decide +kernel
theorem d_La_law_826 : decode code 826 = .ok (.iaload, 1) := by decide +kernel
theorem d_La_law_827 : decode code 827 = .ok (.aload_n 0, 1) := by decide +kernel
theorem d_La_law_828 : decode code 828 = .ok (.iload_n 3, 1) := by decide +kernel
theorem d_La_law_829 : decode code 829 = .ok (.iconst 2, 1) := by decide +kernel
theorem d_La_law_830 : decode code 830 = .ok (.iadd, 1) := by decide +kernel
theorem d_La_law_831 : decode code 831 = .ok (.iaload, 1) := by decide +kernel
theorem d_La_law_832 : decode code 832 = .ok (.invokevirtual 110, 3) := by decide +kernel
theorem d_La_law_835 : decode code 835 = .ok (.aload_n 2, 1) := by decide +kernel
theorem d_La_law_836 : decode code 836 = .ok (.aload_n 0, 1) := by decide +kernel
theorem d_La_law_837 : decode code 837 = .ok (.iload_n 3, 1) := by decide +kernel
theorem d_La_law_838 : decode code 838 = .ok (.iconst 1, 1) := by decide +kernel
theorem d_La_law_839 : decode code 839 = .ok (.iadd, 1) := by decide +kernel
theorem d_La_law_840 : decode code 840 = .ok (.iaload, 1) := by decide +kernel
theorem d_La_law_841 : decode code 841 = .ok (.aload_n 0, 1) := by decide +kernel
theorem d_La_law_842 : decode code 842 = .ok (.iload_n 3, 1) := by decide +kernel
theorem d_La_law_843 : decode code 843 = .ok (.iconst 2, 1) := by decide +kernel
theorem d_La_law_844 : decode code 844 = .ok (.iadd, 1) := by decide +kernel
theorem d_La_law_845 : decode code 845 = .ok (.iaload, 1) := by decide +kernel
theorem d_La_law_846 : decode code 846 = .ok (.invokevirtual 113, 3) := by decide +kernel
theorem d_La_law_849 : decode code 849 = .ok (.if_icmp .eq 437, 3) := by decide +kernel
theorem d_La_law_852 : decode code 852 = .ok (.iconst 0, 1) := by decide +kernel
theorem d_La_law_853 : decode code 853 = .ok (.ireturn, 1) := by decide +kernel
theorem d_La_law_854 : decode code 854 = .ok (.aload_n 1, 1) := by decide +kernel
theorem d_La_law_855 : decode code 855 = .ok (.invokevirtual 114, 3) := by decide +kernel
theorem d_La_law_858 : decode code 858 = .ok (.aload_n 2, 1) := by decide +kernel
theorem d_La_law_859 : decode code 859 = .ok (.invokevirtual 117, 3) := by decide +kernel
theorem d_La_law_862 : decode code 862 = .ok (.if_icmp .eq 424, 3) := by decide +kernel
theorem d_La_law_865 : decode code 865 = .ok (.iconst 0, 1) := by decide +kernel
theorem d_La_law_866 : decode code 866 = .ok (.ireturn, 1) := by decide +kernel
theorem d_La_law_867 : decode code 867 = .ok (.aload_n 1, 1) := by decide +kernel
theorem d_La_law_868 : decode code 868 = .ok (.aload_n 0, 1) := by decide +kernel
theorem d_La_law_869 : decode code 869 = .ok (.iload_n 3, 1) := by decide +kernel
theorem d_La_law_870 : decode code 870 = .ok (.iconst 1, 1) := by decide +kernel
theorem d_La_law_871 : decode code 871 = .ok (.iadd, 1) := by decide +kernel
theorem d_La_law_872 : decode code 872 = .ok (.iaload, 1) := by decide +kernel
theorem d_La_law_873 : decode code 873 = .ok (.invokevirtual 118, 3) := by decide +kernel
theorem d_La_law_876 : decode code 876 = .ok (.aload_n 2, 1) := by decide +kernel
theorem d_La_law_877 : decode code 877 = .ok (.aload_n 0, 1) := by decide +kernel
theorem d_La_law_878 : decode code 878 = .ok (.iload_n 3, 1) := by decide +kernel
theorem d_La_law_879 : decode code 879 = .ok (.iconst 1, 1) := by decide +kernel
theorem d_La_law_880 : decode code 880 = .ok (.iadd, 1) := by decide +kernel
theorem d_La_law_881 : decode code 881 = .ok (.iaload, 1) := by decide +kernel
theorem d_La_law_882 : decode code 882 = .ok (.invokevirtual 121, 3) := by decide +kernel
theorem d_La_law_885 : decode code 885 = .ok (.if_icmp .eq 401, 3) := by decide +kernel
theorem d_La_law_888 : decode code 888 = .ok (.iconst 0, 1) := by decide +kernel
theorem d_La_law_889 : decode code 889 = .ok (.ireturn, 1) := by decide +kernel
theorem d_La_law_890 : decode code 890 = .ok (.aload_n 1, 1) := by decide +kernel
theorem d_La_law_891 : decode code 891 = .ok (.aload_n 0, 1) := by decide +kernel
theorem d_La_law_892 : decode code 892 = .ok (.iload_n 3, 1) := by decide +kernel
theorem d_La_law_893 : decode code 893 = .ok (.iconst 1, 1) := by decide +kernel
theorem d_La_law_894 : decode code 894 = .ok (.iadd, 1) := by decide +kernel
theorem d_La_law_895 : decode code 895 = .ok (.iaload, 1) := by decide +kernel
theorem d_La_law_896 : decode code 896 = .ok (.invokevirtual 122, 3) := by decide +kernel
theorem d_La_law_899 : decode code 899 = .ok (.aload_n 2, 1) := by decide +kernel
theorem d_La_law_900 : decode code 900 = .ok (.aload_n 0, 1) := by decide +kernel
theorem d_La_law_901 : decode code 901 = .ok (.iload_n 3, 1) := by decide +kernel
theorem d_La_law_902 : decode code 902 = .ok (.iconst 1, 1) := by decide +kernel
theorem d_La_law_903 : decode code 903 = .ok (.iadd, 1) := by decide +kernel
theorem d_La_law_904 : decode code 904 = .ok (.iaload, 1) := by decide +kernel
theorem d_La_law_905 : decode code 905 = .ok (.invokevirtual 125, 3) := by decide +kernel
theorem d_La_law_908 : decode code 908 = .ok (.if_icmp .eq 378, 3) := by decide +kernel
theorem d_La_law_911 : decode code 911 = .ok (.iconst 0, 1) := by decide +kernel
theorem d_La_law_912 : decode code 912 = .ok (.ireturn, 1) := by decide +kernel
theorem d_La_law_913 : decode code 913 = .ok (.aload_n 1, 1) := by decide +kernel
theorem d_La_law_914 : decode code 914 = .ok (.aload_n 0, 1) := by decide +kernel
theorem d_La_law_915 : decode code 915 = .ok (.iload_n 3, 1) := by decide +kernel
theorem d_La_law_916 : decode code 916 = .ok (.iconst 1, 1) := by decide +kernel
theorem d_La_law_917 : decode code 917 = .ok (.iadd, 1) := by decide +kernel
theorem d_La_law_918 : decode code 918 = .ok (.iaload, 1) := by decide +kernel
theorem d_La_law_919 : decode code 919 = .ok (.invokevirtual 126, 3) := by decide +kernel
theorem d_La_law_922 : decode code 922 = .ok (.aload_n 2, 1) := by decide +kernel
theorem d_La_law_923 : decode code 923 = .ok (.aload_n 0, 1) := by decide +kernel
theorem d_La_law_924 : decode code 924 = .ok (.iload_n 3, 1) := by decide +kernel
theorem d_La_law_925 : decode code 925 = .ok (.iconst 1, 1) := by decide +kernel
theorem d_La_law_926 : decode code 926 = .ok (.iadd, 1) := by decide +kernel
theorem d_La_law_927 : decode code 927 = .ok (.iaload, 1) := by decide +kernel
theorem d_La_law_928 : decode code 928 = .ok (.invokevirtual 129, 3) := by decide +kernel
theorem d_La_law_931 : decode code 931 = .ok (.if_icmp .eq 355, 3) := by decide +kernel
theorem d_La_law_934 : decode code 934 = .ok (.iconst 0, 1) := by decide +kernel
theorem d_La_law_935 : decode code 935 = .ok (.ireturn, 1) := by decide +kernel
theorem d_La_law_936 : decode code 936 = .ok (.aload_n 1, 1) := by decide +kernel
theorem d_La_law_937 : decode code 937 = .ok (.aload_n 0, 1) := by decide +kernel
theorem d_La_law_938 : decode code 938 = .ok (.iload_n 3, 1) := by decide +kernel
theorem d_La_law_939 : decode code 939 = .ok (.iconst 1, 1) := by decide +kernel
theorem d_La_law_940 : decode code 940 = .ok (.iadd, 1) := by decide +kernel
theorem d_La_law_941 : decode code 941 = .ok (.iaload, 1) := by decide +kernel
theorem d_La_law_942 : decode code 942 = .ok (.aload_n 0, 1) := by decide +kernel
theorem d_La_law_943 : decode code 943 = .ok (.iload_n 3, 1) := by decide +kernel
theorem d_La_law_944 : decode code 944 = .ok (.iconst 2, 1) := by decide +kernel
theorem d_La_law_945 : decode code 945 = .ok (.iadd, 1) := by decide +kernel
theorem d_La_law_946 : decode code 946 = .ok (.iaload, 1) := by decide +kernel
theorem d_La_law_947 : decode code 947 = .ok (.aload_n 0, 1) := by decide +kernel
theorem d_La_law_948 : decode code 948 = .ok (.iload_n 3, 1) := by decide +kernel
theorem d_La_law_949 : decode code 949 = .ok (.iconst 3, 1) := by decide +kernel
theorem d_La_law_950 : decode code 950 = .ok (.iadd, 1) := by decide +kernel
theorem d_La_law_951 : decode code 951 = .ok (.iaload, 1) := by decide +kernel
theorem d_La_law_952 : decode code 952 = .ok (.invokevirtual 130, 3) := by decide +kernel
theorem d_La_law_955 : decode code 955 = .ok (.aload_n 2, 1) := by decide +kernel
theorem d_La_law_956 : decode code 956 = .ok (.aload_n 0, 1) := by decide +kernel
theorem d_La_law_957 : decode code 957 = .ok (.iload_n 3, 1) := by decide +kernel
theorem d_La_law_958 : decode code 958 = .ok (.iconst 1, 1) := by decide +kernel
theorem d_La_law_959 : decode code 959 = .ok (.iadd, 1) := by decide +kernel
