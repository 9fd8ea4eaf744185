theorem dW_law_643 : decode cW_law 643 = .ok (.iadd, 1) := by decide +kernel
theorem dW_law_644 : decode cW_law 644 = .ok (.iaload, 1) := by decide +kernel
theorem dW_law_645 : decode cW_law 645 = .ok (.aload_n 0, 1) := by decide +kernel
theorem dW_law_646 : decode cW_law 646 = .ok (.iload 4, 2) := by decide +kernel
theorem dW_law_648 : decode cW_law 648 = .ok (.iconst 2, 1) := by decide +kernel
theorem dW_law_649 : decode cW_law 649 = .ok (.iadd, 1) := by decide +kernel
theorem dW_law_650 : decode cW_law 650 = .ok (.iaload, 1) := by decide +kernel
theorem dW_law_651 : decode cW_law 651 = .ok (.ifCond .eq 7, 3) := by decide +kernel
theorem dW_law_654 : decode cW_law 654 = .ok (.iconst 1, 1) := by decide +kernel
theorem dW_law_655 : decode cW_law 655 = .ok (.goto 4, 3) := by decide +kernel
theorem dW_law_658 : decode cW_law 658 = .ok (.iconst 0, 1) := by decide +kernel
theorem dW_law_659 : decode cW_law 659 = .ok (.aload_n 3, 1) := by decide +kernel
theorem dW_law_660 : decode cW_law 660 = .ok (.invokestatic 102, 3) := by decide +kernel
theorem dW_law_663 : decode cW_law 663 = .ok (.istore 5, 2) := by decide +kernel
theorem dW_law_665 : decode cW_law 665 = .ok (.aload_n 2, 1) := by decide +kernel
theorem dW_law_666 : decode cW_law 666 = .ok (.aload_n 0, 1) := by decide +kernel
theorem dW_law_667 : decode cW_law 667 = .ok (.iload 4, 2) := by decide +kernel
theorem dW_law_669 : decode cW_law 669 = .ok (.iconst 1, 1) := by decide +kernel
theorem dW_law_670 : decode cW_law 670 = .ok (.iadd, 1) := by decide +kernel
theorem dW_law_671 : decode cW_law 671 = .ok (.iaload, 1) := by decide +kernel
theorem dW_law_672 : decode cW_law 672 = .ok (.aload_n 0, 1) := by decide +kernel
theorem dW_law_673 : decode cW_law 673 = .ok (.iload 4, 2) := by decide +kernel
theorem dW_law_675 : decode cW_law 675 = .ok (.iconst 2, 1) := by decide +kernel
theorem dW_law_676 : decode cW_law 676 = .ok (.iadd, 1) := by decide +kernel
theorem dW_law_677 : decode cW_law 677 = .ok (.iaload, 1) := by decide +kernel
theorem dW_law_678 : decode cW_law 678 = .ok (.ifCond .eq 7, 3) := by decide +kernel
theorem dW_law_681 : decode cW_law 681 = .ok (.iconst 1, 1) := by decide +kernel
theorem dW_law_682 : decode cW_law 682 = .ok (.goto 4, 3) := by decide +kernel
theorem dW_law_685 : decode cW_law 685 = .ok (.iconst 0, 1) := by decide +kernel
theorem dW_law_686 : decode cW_law 686 = .ok (.invokevirtual 105, 3) := by decide +kernel
theorem dW_law_689 : decode cW_law 689 = .ok (.istore 6, 2) := by decide +kernel
theorem dW_law_691 : decode cW_law 691 = .ok (.aload_n 2, 1) := by decide +kernel
theorem dW_law_692 : decode cW_law 692 = .ok (.invokevirtual 80, 3) := by decide +kernel
theorem dW_law_695 : decode cW_law 695 = .ok (.iload 5, 2) := by decide +kernel
theorem dW_law_697 : decode cW_law 697 = .ok (.if_icmp .eq 5, 3) := by decide +kernel
theorem dW_law_700 : decode cW_law 700 = .ok (.iconst 0, 1) := by decide +kernel
theorem dW_law_701 : decode cW_law 701 = .ok (.ireturn, 1) := by decide +kernel
theorem dW_law_702 : decode cW_law 702 = .ok (.iload 5, 2) := by decide +kernel
theorem dW_law_704 : decode cW_law 704 = .ok (.ifCond .ne 15, 3) := by decide +kernel
theorem dW_law_707 : decode cW_law 707 = .ok (.aload_n 3, 1) := by decide +kernel
theorem dW_law_708 : decode cW_law 708 = .ok (.iconst 0, 1) := by decide +kernel
theorem dW_law_709 : decode cW_law 709 = .ok (.laload, 1) := by decide +kernel
theorem dW_law_710 : decode cW_law 710 = .ok (.iload 6, 2) := by decide +kernel
theorem dW_law_712 : decode cW_law 712 = .ok (.i2l, 1) := by decide +kernel
theorem dW_law_713 : decode cW_law 713 = .ok (.lcmp, 1) := by decide +kernel
theorem dW_law_714 : decode cW_law 714 = .ok (.ifCond .eq 5, 3) := by decide +kernel
theorem dW_law_717 : decode cW_law 717 = .ok (.iconst 0, 1) := by decide +kernel
theorem dW_law_718 : decode cW_law 718 = .ok (.ireturn, 1) := by decide +kernel
theorem dW_law_719 : decode cW_law 719 = .ok (.goto 724, 3) := by decide +kernel
theorem dW_law_722 : decode cW_law 722 = .ok (.aload_n 1, 1) := by decide +kernel
theorem dW_law_723 : decode cW_law 723 = .ok (.aload_n 0, 1) := by decide +kernel
theorem dW_law_724 : decode cW_law 724 = .ok (.iload 4, 2) := by decide +kernel
theorem dW_law_726 : decode cW_law 726 = .ok (.iconst 1, 1) := by decide +kernel
theorem dW_law_727 : decode cW_law 727 = .ok (.iadd, 1) := by decide +kernel
theorem dW_law_728 : decode cW_law 728 = .ok (.iaload, 1) := by decide +kernel
theorem dW_law_729 : decode cW_law 729 = .ok (.aload_n 0, 1) := by decide +kernel
theorem dW_law_730 : decode cW_law 730 = .ok (.iload 4, 2) := by decide +kernel
theorem dW_law_732 : decode cW_law 732 = .ok (.iconst 2, 1) := by decide +kernel
theorem dW_law_733 : decode cW_law 733 = .ok (.iadd, 1) := by decide +kernel
theorem dW_law_734 : decode cW_law 734 = .ok (.iaload, 1) := by decide +kernel
theorem dW_law_735 : decode cW_law 735 = .ok (.aload_n 0, 1) := by decide +kernel
theorem dW_law_736 : decode cW_law 736 = .ok (.iload 4, 2) := by decide +kernel
theorem dW_law_738 : decode cW_law 738 = .ok (.iconst 3, 1) := by decide +kernel
theorem dW_law_739 : decode cW_law 739 = .ok (.iadd, 1) := by decide +kernel
theorem dW_law_740 : decode cW_law 740 = .ok (.iaload, 1) := by decide +kernel
theorem dW_law_741 : decode cW_law 741 = .ok (.ifCond .eq 7, 3) := by decide +kernel
theorem dW_law_744 : decode cW_law 744 = .ok (.iconst 1, 1) := by decide +kernel
theorem dW_law_745 : decode cW_law 745 = .ok (.goto 4, 3) := by decide +kernel
theorem dW_law_748 : decode cW_law 748 = .ok (.iconst 0, 1) := by decide +kernel
theorem dW_law_749 : decode cW_law 749 = .ok (.aload_n 3, 1) := by decide +kernel
theorem dW_law_750 : decode cW_law 750 = .ok (.invokestatic 106, 3) := by decide +kernel
theorem dW_law_753 : decode cW_law 753 = .ok (.istore 5, 2) := by decide +kernel
theorem dW_law_755 : decode cW_law 755 = .ok (.aload_n 2, 1) := by decide +kernel
theorem dW_law_756 : decode cW_law 756 = .ok (.aload_n 0, 1) := by decide +kernel
theorem dW_law_757 : decode cW_law 757 = .ok (.iload 4, 2) := by decide +kernel
theorem dW_law_759 : decode cW_law 759 = .ok (.iconst 1, 1) := by decide +kernel
theorem dW_law_760 : decode cW_law 760 = .ok (.iadd, 1) := by decide +kernel
theorem dW_law_761 : decode cW_law 761 = .ok (.iaload, 1) := by decide +kernel
theorem dW_law_762 : decode cW_law 762 = .ok (.aload_n 0, 1) := by decide +kernel
theorem dW_law_763 : decode cW_law 763 = .ok (.iload 4, 2) := by decide +kernel
theorem dW_law_765 : decode cW_law 765 = .ok (.iconst 2, 1) := by decide +kernel
theorem dW_law_766 : decode cW_law 766 = .ok (.iadd, 1) := by decide +kernel
theorem dW_law_767 : decode cW_law 767 = .ok (.iaload, 1) := by decide +kernel
theorem dW_law_768 : decode cW_law 768 = .ok (.aload_n 0, 1) := by decide +kernel
theorem dW_law_769 : decode cW_law 769 = .ok (.iload 4, 2) := by decide +kernel
theorem dW_law_771 : decode cW_law 771 = .ok (.iconst 3, 1) := by decide +kernel
theorem dW_law_772 : decode cW_law 772 = .ok (.iadd, 1) := by decide +kernel
theorem dW_law_773 : decode cW_law 773 = .ok (.iaload, 1) := by decide +kernel
theorem dW_law_774 : decode cW_law 774 = .ok (.ifCond .eq 7, 3) := by decide +kernel
theorem dW_law_777 : decode cW_law 777 = .ok (.iconst 1, 1) := by decide +kernel
theorem dW_law_778 : decode cW_law 778 = .ok (.goto 4, 3) := by decide +kernel
theorem dW_law_781 : decode cW_law 781 = .ok (.iconst 0, 1) := by decide +kernel
theorem dW_law_782 : decode cW_law 782 = .ok (.invokevirtual 109, 3) := by decide +kernel
theorem dW_law_785 : decode cW_law 785 = .ok (.istore 6, 2) := by decide +kernel
theorem dW_law_787 : decode cW_law 787 = .ok (.aload_n 2, 1) := by decide +kernel
theorem dW_law_788 : decode cW_law 788 = .ok (.invokevirtual 80, 3) := by decide +kernel
theorem dW_law_791 : decode cW_law 791 = .ok (.iload 5, 2) := by decide +kernel
theorem dW_law_793 : decode cW_law 793 = .ok (.if_icmp .eq 5, 3) := by decide +kernel
theorem dW_law_796 : decode cW_law 796 = .ok (.iconst 0, 1) := by decide +kernel
theorem dW_law_797 : decode cW_law 797 = .ok (.ireturn, 1) := by decide +kernel
theorem dW_law_798 : decode cW_law 798 = .ok (.iload 5, 2) := by decide +kernel
theorem dW_law_800 : decode cW_law 800 = .ok (.ifCond .ne 15, 3) := by decide +kernel
theorem dW_law_803 : decode cW_law 803 = .ok (.aload_n 3, 1) := by decide +kernel
theorem dW_law_804 : decode cW_law 804 = .ok (.iconst 0, 1) := by decide +kernel
theorem dW_law_805 : decode cW_law 805 = .ok (.laload, 1) := by decide +kernel
theorem dW_law_806 : decode cW_law 806 = .ok (.iload 6, 2) := by decide +kernel
theorem dW_law_808 : decode cW_law 808 = .ok (.i2l, 1) := by decide +kernel
theorem dW_law_809 : decode cW_law 809 = .ok (.lcmp, 1) := by decide +kernel
theorem dW_law_810 : decode cW_law 810 = .ok (.ifCond .eq 5, 3) := by decide +kernel
theorem dW_law_813 : decode cW_law 813 = .ok (.iconst 0, 1) := by decide +kernel
theorem dW_law_814 : decode cW_law 814 = .ok (.ireturn, 1) := by decide +kernel
theorem dW_law_815 : decode cW_law 815 = .ok (.goto 628, 3) := by decide +kernel
theorem dW_law_818 : decode cW_law 818 = .ok (.aload_n 1, 1) := by decide +kernel
theorem dW_law_819 : decode cW_law 819 = .ok (.aload_n 0, 1) := by decide +kernel
theorem dW_law_820 : decode cW_law 820 = .ok (.iload 4, 2) := by decide +kernel
theorem dW_law_822 : decode cW_law 822 = .ok (.iconst 1, 1) := by decide +kernel
theorem dW_law_823 : decode cW_law 823 = .ok (.iadd, 1) := by decide +kernel
theorem dW_law_824 : decode cW_law 824 = .ok (.iaload, 1) := by decide +kernel
theorem dW_law_825 : decode cW_law 825 = .ok (.aload_n 0, 1) := by decide +kernel
theorem dW_law_826 : decode cW_law 826 = .ok (.iload 4, 2) := by decide +kernel
theorem dW_law_828 : decode cW_law 828 = .ok (.iconst 2, 1) := by decide +kernel
theorem dW_law_829 : decode cW_law 829 = .ok (.iadd, 1) := by decide +kernel
theorem dW_law_830 : decode cW_law 830 = .ok (.iaload, 1) := by decide +kernel
theorem dW_law_831 : decode cW_law 831 = .ok (.aload_n 0, 1) := by decide +kernel
theorem dW_law_832 : decode cW_law 832 = .ok (.iload 4, 2) := by decide +kernel
theorem dW_law_834 : decode cW_law 834 = .ok (.iconst 3, 1) := by decide +kernel
theorem dW_law_835 : decode cW_law 835 = .ok (.iadd, 1) := by decide +kernel
theorem dW_law_836 : decode cW_law 836 = .ok (.iaload, 1) := by decide +kernel
theorem dW_law_837 : decode cW_law 837 = .ok (.ifCond .eq 7, 3) := by decide +kernel
theorem dW_law_840 : decode cW_law 840 = .ok (.iconst 1, 1) := by decide +kernel
theorem dW_law_841 : decode cW_law 841 = .ok (.goto 4, 3) := by decide +kernel
theorem dW_law_844 : decode cW_law 844 = .ok (.iconst 0, 1) := by decide +kernel
theorem dW_law_845 : decode cW_law 845 = .ok (.aload_n 3, 1) := by decide +kernel
theorem dW_law_846 : decode cW_law 846 = .ok (.invokestatic 110, 3) := by decide +kernel
theorem dW_law_849 : decode cW_law 849 = .ok (.istore 5, 2) := by decide +kernel
theorem dW_law_851 : decode cW_law 851 = .ok (.aload_n 2, 1) := by decide +kernel
theorem dW_law_852 : decode cW_law 852 = .ok (.aload_n 0, 1) := by decide +kernel
theorem dW_law_853 : decode cW_law 853 = .ok (.iload 4, 2) := by decide +kernel
theorem dW_law_855 : decode cW_law 855 = .ok (.iconst 1, 1) := by decide +kernel
theorem dW_law_856 : decode cW_law 856 = .ok (.iadd, 1) := by decide +kernel
theorem dW_law_857 : decode cW_law 857 = .ok (.iaload, 1) := by decide +kernel
theorem dW_law_858 : decode cW_law 858 = .ok (.aload_n 0, 1) := by decide +kernel
theorem dW_law_859 : decode cW_law 859 = .ok (.iload 4, 2) := by decide +kernel
theorem dW_law_861 : decode cW_law 861 = .ok (.iconst 2, 1) := by decide +kernel
theorem dW_law_862 : decode cW_law 862 = .ok (.iadd, 1) := by decide +kernel
theorem dW_law_863 : decode cW_law 863 = .ok (.iaload, 1) := by decide +kernel
theorem dW_law_864 : decode cW_law 864 = .ok (.aload_n 0, 1) := by decide +kernel
theorem dW_law_865 : decode cW_law 865 = .ok (.iload 4, 2) := by decide +kernel
theorem dW_law_867 : decode cW_law 867 = .ok (.iconst 3, 1) := by decide +kernel
theorem dW_law_868 : decode cW_law 868 = .ok (.iadd, 1) := by decide +kernel
theorem dW_law_869 : decode cW_law 869 = .ok (.iaload, 1) := by decide +kernel
theorem dW_law_870 : decode cW_law 870 = .ok (.ifCond .eq 7, 3) := by decide +kernel
theorem dW_law_873 : decode cW_law 873 = .ok (.iconst 1, 1) := by decide +kernel
theorem dW_law_874 : decode cW_law 874 = .ok (.goto 4, 3) := by decide +kernel
theorem dW_law_877 : decode cW_law 877 = .ok (.iconst 0, 1) := by decide +kernel
theorem dW_law_878 : decode cW_law 878 = .ok (.invokevirtual 112, 3) := by decide +kernel
theorem dW_law_881 : decode cW_law 881 = .ok (.istore 6, 2) := by decide +kernel
theorem dW_law_883 : decode cW_law 883 = .ok (.aload_n 2, 1) := by decide +kernel
theorem dW_law_884 : decode cW_law 884 = .ok (.invokevirtual 80, 3) := by decide +kernel
theorem dW_law_887 : decode cW_law 887 = .ok (.iload 5, 2) := by decide +kernel
theorem dW_law_889 : decode cW_law 889 = .ok (.if_icmp .eq 5, 3) := by decide +kernel
theorem dW_law_892 : decode cW_law 892 = .ok (.iconst 0, 1) := by decide +kernel
theorem dW_law_893 : decode cW_law 893 = .ok (.ireturn, 1) := by decide +kernel
theorem dW_law_894 : decode cW_law 894 = .ok (.iload 5, 2) := by decide +kernel
theorem dW_law_896 : decode cW_law 896 = .ok (.ifCond .ne 15, 3) := by decide +kernel
theorem dW_law_899 : decode cW_law 899 = .ok (.aload_n 3, 1) := by decide +kernel
theorem dW_law_900 : decode cW_law 900 = .ok (.iconst 0, 1) := by decide +kernel
theorem dW_law_901 : decode cW_law 901 = .ok (.laload, 1) := by decide +kernel
theorem dW_law_902 : decode cW_law 902 = .ok (.iload 6, 2) := by decide +kernel
theorem dW_law_904 : decode cW_law 904 = .ok (.i2l, 1) := by decide +kernel
theorem dW_law_905 : decode cW_law 905 = .ok (.lcmp, 1) := by decide +kernel
theorem dW_law_906 : decode cW_law 906 = .ok (.ifCond .eq 5, 3) := by decide +kernel
theorem dW_law_909 : decode cW_law 909 = .ok (.iconst 0, 1) := by decide +kernel
theorem dW_law_910 : decode cW_law 910 = .ok (.ireturn, 1) := by decide +kernel
theorem dW_law_911 : decode cW_law 911 = .ok (.goto 532, 3) := by decide +kernel
theorem dW_law_914 : decode cW_law 914 = .ok (.aload_n 1, 1) := by decide +kernel
theorem dW_law_915 : decode cW_law 915 = .ok (.aload_n 0, 1) := by decide +kernel
theorem dW_law_916 : decode cW_law 916 = .ok (.iload 4, 2) := by decide +kernel
theorem dW_law_918 : decode cW_law 918 = .ok (.iconst 1, 1) := by decide +kernel
theorem dW_law_919 : decode cW_law 919 = .ok (.iadd, 1) := by decide +kernel
theorem dW_law_920 : decode cW_law 920 = .ok (.iaload, 1) := by decide +kernel
theorem dW_law_921 : decode cW_law 921 = .ok (.aload_n 0, 1) := by decide +kernel
theorem dW_law_922 : decode cW_law 922 = .ok (.iload 4, 2) := by decide +kernel
theorem dW_law_924 : decode cW_law 924 = .ok (.iconst 2, 1) := by decide +kernel
theorem dW_law_925 : decode cW_law 925 = .ok (.iadd, 1) := by decide +kernel
theorem dW_law_926 : decode cW_law 926 = .ok (.iaload, 1) := by decide +kernel
theorem dW_law_927 : decode cW_law 927 = .ok (.aload_n 0, 1) := by decide +kernel
theorem dW_law_928 : decode cW_law 928 = .ok (.iload 4, 2) := by decide +kernel
theorem dW_law_930 : decode cW_law 930 = .ok (.iconst 3, 1) := by decide +kernel
theorem dW_law_931 : decode cW_law 931 = .ok (.iadd, 1) := by decide +kernel
theorem dW_law_932 : decode cW_law 932 = .ok (.iaload, 1) := by decide +kernel
theorem dW_law_933 : decode cW_law 933 = .ok (.aload_n 0, 1) := by decide +kernel
theorem dW_law_934 : decode cW_law 934 = .ok (.iload 4, 2) := by decide +kernel
theorem dW_law_936 : decode cW_law 936 = .ok (.iconst 4, 1) := by decide +kernel
theorem dW_law_937 : decode cW_law 937 = .ok (.iadd, 1) := by decide +kernel
theorem dW_law_938 : decode cW_law 938 = .ok (.iaload, 1) := by decide +kernel
theorem dW_law_939 : decode cW_law 939 = .ok (.i2l, 1) := by decide +kernel
theorem dW_law_940 : decode cW_law 940 = .ok (.bipush 32, 2) := by decide +kernel
theorem dW_law_942 : decode cW_law 942 = .ok (.lshl, 1) := by decide +kernel
theorem dW_law_943 : decode cW_law 943 = .ok (.aload_n 0, 1) := by decide +kernel
theorem dW_law_944 : decode cW_law 944 = .ok (.iload 4, 2) := by decide +kernel
theorem dW_law_946 : decode cW_law 946 = .ok (.iconst 5, 1) := by decide +kernel
theorem dW_law_947 : decode cW_law 947 = .ok (.iadd, 1) := by decide +kernel
theorem dW_law_948 : decode cW_law 948 = .ok (.iaload, 1) := by decide +kernel
theorem dW_law_949 : decode cW_law 949 = .ok (.i2l, 1) := by decide +kernel
theorem dW_law_950 : decode cW_law 950 = .ok (.ldc2_w 84, 3) := by decide +kernel
theorem dW_law_953 : decode cW_law 953 = .ok (.land, 1) := by decide +kernel
theorem dW_law_954 : decode cW_law 954 = .ok (.lor, 1) := by decide +kernel
theorem dW_law_955 : decode cW_law 955 = .ok (.aload_n 3, 1) := by decide +kernel
theorem dW_law_956 : decode cW_law 956 = .ok (.invokestatic 113, 3) := by decide +kernel
theorem dW_law_959 : decode cW_law 959 = .ok (.istore 5, 2) := by decide +kernel
theorem dW_law_961 : decode cW_law 961 = .ok (.aload_n 2, 1) := by decide +kernel
theorem dW_law_962 : decode cW_law 962 = .ok (.aload_n 0, 1) := by decide +kernel
theorem dW_law_963 : decode cW_law 963 = .ok (.iload 4, 2) := by decide +kernel
theorem dW_law_965 : decode cW_law 965 = .ok (.iconst 1, 1) := by decide +kernel
theorem dW_law_966 : decode cW_law 966 = .ok (.iadd, 1) := by decide +kernel
theorem dW_law_967 : decode cW_law 967 = .ok (.iaload, 1) := by decide +kernel
theorem dW_law_968 : decode cW_law 968 = .ok (.aload_n 0, 1) := by decide +kernel
theorem dW_law_969 : decode cW_law 969 = .ok (.iload 4, 2) := by decide +kernel
theorem dW_law_971 : decode cW_law 971 = .ok (.iconst 2, 1) := by decide +kernel
theorem dW_law_972 : decode cW_law 972 = .ok (.iadd, 1) := by decide +kernel
theorem dW_law_973 : decode cW_law 973 = .ok (.iaload, 1) := by decide +kernel
theorem dW_law_974 : decode cW_law 974 = .ok (.aload_n 0, 1) := by decide +kernel
theorem dW_law_975 : decode cW_law 975 = .ok (.iload 4, 2) := by decide +kernel
theorem dW_law_977 : decode cW_law 977 = .ok (.iconst 3, 1) := by decide +kernel
theorem dW_law_978 : decode cW_law 978 = .ok (.iadd, 1) := by decide +kernel
theorem dW_law_979 : decode cW_law 979 = .ok (.iaload, 1) := by decide +kernel
theorem dW_law_980 : decode cW_law 980 = .ok (.aload_n 0, 1) := by decide +kernel
theorem dW_law_981 : decode cW_law 981 = .ok (.iload 4, 2) := by decide +kernel
theorem dW_law_983 : decode cW_law 983 = .ok (.iconst 4, 1) := by decide +kernel
theorem dW_law_984 : decode cW_law 984 = .ok (.iadd, 1) := by decide +kernel
theorem dW_law_985 : decode cW_law 985 = .ok (.iaload, 1) := by decide +kernel
theorem dW_law_986 : decode cW_law 986 = .ok (.i2l, 1) := by decide +kernel
theorem dW_law_987 : decode cW_law 987 = .ok (.bipush 32, 2) := by decide +kernel
theorem dW_law_989 : decode cW_law 989 = .ok (.lshl, 1) := by decide +kernel
theorem dW_law_990 : decode cW_law 990 = .ok (.aload_n 0, 1) := by decide +kernel
theorem dW_law_991 : decode cW_law 991 = .ok (.iload 4, 2) := by decide +kernel
theorem dW_law_993 : decode cW_law 993 = .ok (.iconst 5, 1) := by decide +kernel
theorem dW_law_994 : decode cW_law 994 = .ok (.iadd, 1) := by decide +kernel
theorem dW_law_995 : decode cW_law 995 = .ok (.iaload, 1) := by decide +kernel
theorem dW_law_996 : decode cW_law 996 = .ok (.i2l, 1) := by decide +kernel
theorem dW_law_997 : decode cW_law 997 = .ok (.ldc2_w 84, 3) := by decide +kernel
theorem dW_law_1000 : decode cW_law 1000 = .ok (.land, 1) := by decide +kernel
theorem dW_law_1001 : decode cW_law 1001 = .ok (.lor, 1) := by decide +kernel
theorem dW_law_1002 : decode cW_law 1002 = .ok (.invokevirtual 116, 3) := by decide +kernel
theorem dW_law_1005 : decode cW_law 1005 = .ok (.lstore 6, 2) := by decide +kernel
theorem dW_law_1007 : decode cW_law 1007 = .ok (.aload_n 2, 1) := by decide +kernel
theorem dW_law_1008 : decode cW_law 1008 = .ok (.invokevirtual 80, 3) := by decide +kernel
theorem dW_law_1011 : decode cW_law 1011 = .ok (.iload 5, 2) := by decide +kernel
theorem dW_law_1013 : decode cW_law 1013 = .ok (.if_icmp .eq 5, 3) := by decide +kernel
theorem dW_law_1016 : decode cW_law 1016 = .ok (.iconst 0, 1) := by decide +kernel
theorem dW_law_1017 : decode cW_law 1017 = .ok (.ireturn, 1) := by decide +kernel
theorem dW_law_1018 : decode cW_law 1018 = .ok (.iload 5, 2) := by decide +kernel
theorem dW_law_1020 : decode cW_law 1020 = .ok (.ifCond .ne 14, 3) := by decide +kernel
theorem dW_law_1023 : decode cW_law 1023 = .ok (.aload_n 3, 1) := by decide +kernel
theorem dW_law_1024 : decode cW_law 1024 = .ok (.iconst 0, 1) := by decide +kernel
theorem dW_law_1025 : decode cW_law 1025 = .ok (.laload, 1) := by decide +kernel
theorem dW_law_1026 : decode cW_law 1026 = .ok (.lload 6, 2) := by decide +kernel
theorem dW_law_1028 : decode cW_law 1028 = .ok (.lcmp, 1) := by decide +kernel
theorem dW_law_1029 : decode cW_law 1029 = .ok (.ifCond .eq 5, 3) := by decide +kernel
theorem dW_law_1032 : decode cW_law 1032 = .ok (.iconst 0, 1) := by decide +kernel
theorem dW_law_1033 : decode cW_law 1033 = .ok (.ireturn, 1) := by decide +kernel
theorem dW_law_1034 : decode cW_law 1034 = .ok (.goto 409, 3) := by decide +kernel
theorem dW_law_1037 : decode cW_law 1037 = .ok (.aload_n 1, 1) := by decide +kernel
theorem dW_law_1038 : decode cW_law 1038 = .ok (.aload_n 0, 1) := by decide +kernel
theorem dW_law_1039 : decode cW_law 1039 = .ok (.iload 4, 2) := by decide +kernel
theorem dW_law_1041 : decode cW_law 1041 = .ok (.iconst 1, 1) := by decide +kernel
theorem dW_law_1042 : decode cW_law 1042 = .ok (.iadd, 1) := by decide +kernel
theorem dW_law_1043 : decode cW_law 1043 = .ok (.iaload, 1) := by decide +kernel
theorem dW_law_1044 : decode cW_law 1044 = .ok (.invokevirtual 117, 3) := by decide +kernel
theorem dW_law_1047 : decode cW_law 1047 = .ok (.aload_n 2, 1) := by decide +kernel
theorem dW_law_1048 : decode cW_law 1048 = .ok (.aload_n 0, 1) := by decide +kernel
theorem dW_law_1049 : decode cW_law 1049 = .ok (.iload 4, 2) := by decide +kernel
theorem dW_law_1051 : decode cW_law 1051 = .ok (.iconst 1, 1) := by decide +kernel
theorem dW_law_1052 : decode cW_law 1052 = .ok (.iadd, 1) := by decide +kernel
theorem dW_law_1053 : decode cW_law 1053 = .ok (.iaload, 1) := by decide +kernel
theorem dW_law_1054 : decode cW_law 1054 = .ok (.invokevirtual 120, 3) := by decide +kernel
theorem dW_law_1057 : decode cW_law 1057 = .ok (.if_icmp .eq 386, 3) := by decide +kernel
theorem dW_law_1060 : decode cW_law 1060 = .ok (.iconst 0, 1) := by decide +kernel
theorem dW_law_1061 : decode cW_law 1061 = .ok (.ireturn, 1) := by decide +kernel
theorem dW_law_1062 : decode cW_law 1062 = .ok (.aload_n 1, 1) := by decide +kernel
theorem dW_law_1063 : decode cW_law 1063 = .ok (.aload_n 0, 1) := by decide +kernel
theorem dW_law_1064 : decode cW_law 1064 = .ok (.iload 4, 2) := by decide +kernel
theorem dW_law_1066 : decode cW_law 1066 = .ok (.iconst 1, 1) := by decide +kernel
theorem dW_law_1067 : decode cW_law 1067 = .ok (.iadd, 1) := by decide +kernel
theorem dW_law_1068 : decode cW_law 1068 = .ok (.iaload, 1) := by decide +kernel
theorem dW_law_1069 : decode cW_law 1069 = .ok (.aload_n 0, 1) := by decide +kernel
theorem dW_law_1070 : decode cW_law 1070 = .ok (.iload 4, 2) := by decide +kernel
theorem dW_law_1072 : decode cW_law 1072 = .ok (.iconst 2, 1) := by decide +kernel
theorem dW_law_1073 : decode cW_law 1073 = .ok (.iadd, 1) := by decide +kernel
theorem dW_law_1074 : decode cW_law 1074 = .ok (.iaload, 1) := by decide +kernel
theorem dW_law_1075 : decode cW_law 1075 = .ok (.aload_n 0, 1) := by decide +kernel
theorem dW_law_1076 : decode cW_law 1076 = .ok (.iload 4, 2) := by decide +kernel
theorem dW_law_1078 : decode cW_law 1078 = .ok (.iconst 3, 1) := by decide +kernel
theorem dW_law_1079 : decode cW_law 1079 = .ok (.iadd, 1) := by decide +kernel
theorem dW_law_1080 : decode cW_law 1080 = .ok (.iaload, 1) := by decide +kernel
theorem dW_law_1081 : decode cW_law 1081 = .ok (.aload_n 3, 1) := by decide +kernel
theorem dW_law_1082 : decode cW_law 1082 = .ok (.invokestatic 121, 3) := by decide +kernel
theorem dW_law_1085 : decode cW_law 1085 = .ok (.istore 5, 2) := by decide +kernel
theorem dW_law_1087 : decode cW_law 1087 = .ok (.aload_n 2, 1) := by decide +kernel
theorem dW_law_1088 : decode cW_law 1088 = .ok (.aload_n 0, 1) := by decide +kernel
theorem dW_law_1089 : decode cW_law 1089 = .ok (.iload 4, 2) := by decide +kernel
theorem dW_law_1091 : decode cW_law 1091 = .ok (.iconst 1, 1) := by decide +kernel
theorem dW_law_1092 : decode cW_law 1092 = .ok (.iadd, 1) := by decide +kernel
theorem dW_law_1093 : decode cW_law 1093 = .ok (.iaload, 1) := by decide +kernel
theorem dW_law_1094 : decode cW_law 1094 = .ok (.aload_n 0, 1) := by decide +kernel
theorem dW_law_1095 : decode cW_law 1095 = .ok (.iload 4, 2) := by decide +kernel
theorem dW_law_1097 : decode cW_law 1097 = .ok (.iconst 2, 1) := by decide +kernel
theorem dW_law_1098 : decode cW_law 1098 = .ok (.iadd, 1) := by decide +kernel
theorem dW_law_1099 : decode cW_law 1099 = .ok (.iaload, 1) := by decide +kernel
theorem dW_law_1100 : decode cW_law 1100 = .ok (.aload_n 0, 1) := by decide +kernel
theorem dW_law_1101 : decode cW_law 1101 = .ok (.iload 4, 2) := by decide +kernel
theorem dW_law_1103 : decode cW_law 1103 = .ok (.iconst 3, 1) := by decide +kernel
theorem dW_law_1104 : decode cW_law 1104 = .ok (.iadd, 1) := by decide +kernel
theorem dW_law_1105 : decode cW_law 1105 = .ok (.iaload, 1) := by decide +kernel
theorem dW_law_1106 : decode cW_law 1106 = .ok (.invokevirtual 124, 3) := by decide +kernel
theorem dW_law_1109 : decode cW_law 1109 = .ok (.istore 6, 2) := by decide +kernel
theorem dW_law_1111 : decode cW_law 1111 = .ok (.aload_n 2, 1) := by decide +kernel
theorem dW_law_1112 : decode cW_law 1112 = .ok (.invokevirtual 80, 3) := by decide +kernel
theorem dW_law_1115 : decode cW_law 1115 = .ok (.iload 5, 2) := by decide +kernel
theorem dW_law_1117 : decode cW_law 1117 = .ok (.if_icmp .eq 5, 3) := by decide +kernel
theorem dW_law_1120 : decode cW_law 1120 = .ok (.iconst 0, 1) := by decide +kernel
theorem dW_law_1121 : decode cW_law 1121 = .ok (.ireturn, 1) := by decide +kernel
theorem dW_law_1122 : decode cW_law 1122 = .ok (.iload 5, 2) := by decide +kernel
theorem dW_law_1124 : decode cW_law 1124 = .ok (.ifCond .ne 22, 3) := by decide +kernel
theorem dW_law_1127 : decode cW_law 1127 = .ok (.aload_n 3, 1) := by decide +kernel
theorem dW_law_1128 : decode cW_law 1128 = .ok (.iconst 0, 1) := by decide +kernel
theorem dW_law_1129 : decode cW_law 1129 = .ok (.laload, 1) := by decide +kernel
theorem dW_law_1130 : decode cW_law 1130 = .ok (.iload 6, 2) := by decide +kernel
theorem dW_law_1132 : decode cW_law 1132 = .ok (.ifCond .eq 7, 3) := by decide +kernel
theorem dW_law_1135 : decode cW_law 1135 = .ok (.lconst 1, 1) := by decide +kernel
theorem dW_law_1136 : decode cW_law 1136 = .ok (.goto 4, 3) := by decide +kernel
theorem dW_law_1139 : decode cW_law 1139 = .ok (.lconst 0, 1) := by decide +kernel
theorem dW_law_1140 : decode cW_law 1140 = .ok (.lcmp, 1) := by decide +kernel
theorem dW_law_1141 : decode cW_law 1141 = .ok (.ifCond .eq 5, 3) := by decide +kernel
theorem dW_law_1144 : decode cW_law 1144 = .ok (.iconst 0, 1) := by decide +kernel
theorem dW_law_1145 : decode cW_law 1145 = .ok (.ireturn, 1) := by decide +kernel
theorem dW_law_1146 : decode cW_law 1146 = .ok (.goto 297, 3) := by decide +kernel
theorem dW_law_1149 : decode cW_law 1149 = .ok (.aload_n 1, 1) := by decide +kernel
theorem dW_law_1150 : decode cW_law 1150 = .ok (.aload_n 0, 1) := by decide +kernel
theorem dW_law_1151 : decode cW_law 1151 = .ok (.iload 4, 2) := by decide +kernel
theorem dW_law_1153 : decode cW_law 1153 = .ok (.iconst 1, 1) := by decide +kernel
theorem dW_law_1154 : decode cW_law 1154 = .ok (.iadd, 1) := by decide +kernel
theorem dW_law_1155 : decode cW_law 1155 = .ok (.iaload, 1) := by decide +kernel
theorem dW_law_1156 : decode cW_law 1156 = .ok (.aload_n 3, 1) := by decide +kernel
theorem dW_law_1157 : decode cW_law 1157 = .ok (.invokestatic 125, 3) := by decide +kernel
theorem dW_law_1160 : decode cW_law 1160 = .ok (.istore 5, 2) := by decide +kernel
theorem dW_law_1162 : decode cW_law 1162 = .ok (.aload_n 2, 1) := by decide +kernel
theorem dW_law_1163 : decode cW_law 1163 = .ok (.aload_n 0, 1) := by decide +kernel
theorem dW_law_1164 : decode cW_law 1164 = .ok (.iload 4, 2) := by decide +kernel
theorem dW_law_1166 : decode cW_law 1166 = .ok (.iconst 1, 1) := by decide +kernel
theorem dW_law_1167 : decode cW_law 1167 = .ok (.iadd, 1) := by decide +kernel
theorem dW_law_1168 : decode cW_law 1168 = .ok (.iaload, 1) := by decide +kernel
theorem dW_law_1169 : decode cW_law 1169 = .ok (.invokevirtual 127, 3) := by decide +kernel
theorem dW_law_1172 : decode cW_law 1172 = .ok (.istore 6, 2) := by decide +kernel
theorem dW_law_1174 : decode cW_law 1174 = .ok (.aload_n 2, 1) := by decide +kernel
theorem dW_law_1175 : decode cW_law 1175 = .ok (.invokevirtual 80, 3) := by decide +kernel
theorem dW_law_1178 : decode cW_law 1178 = .ok (.iload 5, 2) := by decide +kernel
theorem dW_law_1180 : decode cW_law 1180 = .ok (.if_icmp .eq 5, 3) := by decide +kernel
theorem dW_law_1183 : decode cW_law 1183 = .ok (.iconst 0, 1) := by decide +kernel
theorem dW_law_1184 : decode cW_law 1184 = .ok (.ireturn, 1) := by decide +kernel
theorem dW_law_1185 : decode cW_law 1185 = .ok (.iload 5, 2) := by decide +kernel
theorem dW_law_1187 : decode cW_law 1187 = .ok (.ifCond .ne 15, 3) := by decide +kernel
theorem dW_law_1190 : decode cW_law 1190 = .ok (.aload_n 3, 1) := by decide +kernel
theorem dW_law_1191 : decode cW_law 1191 = .ok (.iconst 0, 1) := by decide +kernel
theorem dW_law_1192 : decode cW_law 1192 = .ok (.laload, 1) := by decide +kernel
theorem dW_law_1193 : decode cW_law 1193 = .ok (.iload 6, 2) := by decide +kernel
theorem dW_law_1195 : decode cW_law 1195 = .ok (.i2l, 1) := by decide +kernel
theorem dW_law_1196 : decode cW_law 1196 = .ok (.lcmp, 1) := by decide +kernel
theorem dW_law_1197 : decode cW_law 1197 = .ok (.ifCond .eq 5, 3) := by decide +kernel
theorem dW_law_1200 : decode cW_law 1200 = .ok (.iconst 0, 1) := by decide +kernel
theorem dW_law_1201 : decode cW_law 1201 = .ok (.ireturn, 1) := by decide +kernel
theorem dW_law_1202 : decode cW_law 1202 = .ok (.goto 241, 3) := by decide +kernel
theorem dW_law_1205 : decode cW_law 1205 = .ok (.aload_n 1, 1) := by decide +kernel
theorem dW_law_1206 : decode cW_law 1206 = .ok (.aload_n 0, 1) := by decide +kernel
theorem dW_law_1207 : decode cW_law 1207 = .ok (.iload 4, 2) := by decide +kernel
theorem dW_law_1209 : decode cW_law 1209 = .ok (.iconst 1, 1) := by decide +kernel
theorem dW_law_1210 : decode cW_law 1210 = .ok (.iadd, 1) := by decide +kernel
theorem dW_law_1211 : decode cW_law 1211 = .ok (.iaload, 1) := by decide +kernel
theorem dW_law_1212 : decode cW_law 1212 = .ok (.aload_n 0, 1) := by decide +kernel
theorem dW_law_1213 : decode cW_law 1213 = .ok (.iload 4, 2) := by decide +kernel
theorem dW_law_1215 : decode cW_law 1215 = .ok (.iconst 2, 1) := by decide +kernel
theorem dW_law_1216 : decode cW_law 1216 = .ok (.iadd, 1) := by decide +kernel
theorem dW_law_1217 : decode cW_law 1217 = .ok (.iaload, 1) := by decide +kernel
theorem dW_law_1218 : decode cW_law 1218 = .ok (.aload_n 3, 1) := by decide +kernel
theorem dW_law_1219 : decode cW_law 1219 = .ok (.invokestatic 128, 3) := by decide +kernel
theorem dW_law_1222 : decode cW_law 1222 = .ok (.istore 5, 2) := by decide +kernel
theorem dW_law_1224 : decode cW_law 1224 = .ok (.aload_n 2, 1) := by decide +kernel
theorem dW_law_1225 : decode cW_law 1225 = .ok (.aload_n 0, 1) := by decide +kernel
theorem dW_law_1226 : decode cW_law 1226 = .ok (.iload 4, 2) := by decide +kernel
theorem dW_law_1228 : decode cW_law 1228 = .ok (.iconst 1, 1) := by decide +kernel
theorem dW_law_1229 : decode cW_law 1229 = .ok (.iadd, 1) := by decide +kernel
theorem dW_law_1230 : decode cW_law 1230 = .ok (.iaload, 1) := by decide +kernel
theorem dW_law_1231 : decode cW_law 1231 = .ok (.aload_n 0, 1) := by decide +kernel
theorem dW_law_1232 : decode cW_law 1232 = .ok (.iload 4, 2) := by decide +kernel
theorem dW_law_1234 : decode cW_law 1234 = .ok (.iconst 2, 1) := by decide +kernel
theorem dW_law_1235 : decode cW_law 1235 = .ok (.iadd, 1) := by decide +kernel
theorem dW_law_1236 : decode cW_law 1236 = .ok (.iaload, 1) := by decide +kernel
theorem dW_law_1237 : decode cW_law 1237 = .ok (.invokevirtual 131, 3) := by decide +kernel
theorem dW_law_1240 : decode cW_law 1240 = .ok (.lstore 6, 2) := by decide +kernel
theorem dW_law_1242 : decode cW_law 1242 = .ok (.aload_n 2, 1) := by decide +kernel
theorem dW_law_1243 : decode cW_law 1243 = .ok (.invokevirtual 80, 3) := by decide +kernel
theorem dW_law_1246 : decode cW_law 1246 = .ok (.iload 5, 2) := by decide +kernel
theorem dW_law_1248 : decode cW_law 1248 = .ok (.if_icmp .eq 5, 3) := by decide +kernel
theorem dW_law_1251 : decode cW_law 1251 = .ok (.iconst 0, 1) := by decide +kernel
theorem dW_law_1252 : decode cW_law 1252 = .ok (.ireturn, 1) := by decide +kernel
theorem dW_law_1253 : decode cW_law 1253 = .ok (.iload 5, 2) := by decide +kernel
theorem dW_law_1255 : decode cW_law 1255 = .ok (.ifCond .ne 14, 3) := by decide +kernel
theorem dW_law_1258 : decode cW_law 1258 = .ok (.aload_n 3, 1) := by decide +kernel
theorem dW_law_1259 : decode cW_law 1259 = .ok (.iconst 0, 1) := by decide +kernel
theorem dW_law_1260 : decode cW_law 1260 = .ok (.laload, 1) := by decide +kernel
theorem dW_law_1261 : decode cW_law 1261 = .ok (.lload 6, 2) := by decide +kernel
theorem dW_law_1263 : decode cW_law 1263 = .ok (.lcmp, 1) := by decide +kernel
theorem dW_law_1264 : decode cW_law 1264 = .ok (.ifCond .eq 5, 3) := by decide +kernel
theorem dW_law_1267 : decode cW_law 1267 = .ok (.iconst 0, 1) := by decide +kernel
theorem dW_law_1268 : decode cW_law 1268 = .ok (.ireturn, 1) := by decide +kernel
theorem dW_law_1269 : decode cW_law 1269 = .ok (.goto 174, 3) := by decide +kernel
theorem dW_law_1272 : decode cW_law 1272 = .ok (.aload_n 1, 1) := by decide +kernel
theorem dW_law_1273 : decode cW_law 1273 = .ok (.aload_n 0, 1) := by decide +kernel
theorem dW_law_1274 : decode cW_law 1274 = .ok (.iload 4, 2) := by decide +kernel
theorem dW_law_1276 : decode cW_law 1276 = .ok (.iconst 1, 1) := by decide +kernel
theorem dW_law_1277 : decode cW_law 1277 = .ok (.iadd, 1) := by decide +kernel
theorem dW_law_1278 : decode cW_law 1278 = .ok (.iaload, 1) := by decide +kernel
theorem dW_law_1279 : decode cW_law 1279 = .ok (.aload_n 0, 1) := by decide +kernel
theorem dW_law_1280 : decode cW_law 1280 = .ok (.iload 4, 2) := by decide +kernel
theorem dW_law_1282 : decode cW_law 1282 = .ok (.iconst 2, 1) := by decide +kernel
theorem dW_law_1283 : decode cW_law 1283 = .ok (.iadd, 1) := by decide +kernel
theorem dW_law_1284 : decode cW_law 1284 = .ok (.iaload, 1) := by decide +kernel
theorem dW_law_1285 : decode cW_law 1285 = .ok (.aload_n 0, 1) := by decide +kernel
theorem dW_law_1286 : decode cW_law 1286 = .ok (.iload 4, 2) := by decide +kernel
theorem dW_law_1288 : decode cW_law 1288 = .ok (.iconst 3, 1) := by decide +kernel
theorem dW_law_1289 : decode cW_law 1289 = .ok (.iadd, 1) := by decide +kernel
theorem dW_law_1290 : decode cW_law 1290 = .ok (.iaload, 1) := by decide +kernel
theorem dW_law_1291 : decode cW_law 1291 = .ok (.aload_n 3, 1) := by decide +kernel
theorem dW_law_1292 : decode cW_law 1292 = .ok (.invokestatic 132, 3) := by decide +kernel
theorem dW_law_1295 : decode cW_law 1295 = .ok (.istore 5, 2) := by decide +kernel
theorem dW_law_1297 : decode cW_law 1297 = .ok (.aload_n 2, 1) := by decide +kernel
theorem dW_law_1298 : decode cW_law 1298 = .ok (.aload_n 0, 1) := by decide +kernel
theorem dW_law_1299 : decode cW_law 1299 = .ok (.iload 4, 2) := by decide +kernel
theorem dW_law_1301 : decode cW_law 1301 = .ok (.iconst 1, 1) := by decide +kernel
theorem dW_law_1302 : decode cW_law 1302 = .ok (.iadd, 1) := by decide +kernel
theorem dW_law_1303 : decode cW_law 1303 = .ok (.iaload, 1) := by decide +kernel
theorem dW_law_1304 : decode cW_law 1304 = .ok (.aload_n 0, 1) := by decide +kernel
theorem dW_law_1305 : decode cW_law 1305 = .ok (.iload 4, 2) := by decide +kernel
theorem dW_law_1307 : decode cW_law 1307 = .ok (.iconst 2, 1) := by decide +kernel
theorem dW_law_1308 : decode cW_law 1308 = .ok (.iadd, 1) := by decide +kernel
theorem dW_law_1309 : decode cW_law 1309 = .ok (.iaload, 1) := by decide +kernel
theorem dW_law_1310 : decode cW_law 1310 = .ok (.aload_n 0, 1) := by decide +kernel
theorem dW_law_1311 : decode cW_law 1311 = .ok (.iload 4, 2) := by decide +kernel
theorem dW_law_1313 : decode cW_law 1313 = .ok (.iconst 3, 1) := by decide +kernel
theorem dW_law_1314 : decode cW_law 1314 = .ok (.iadd, 1) := by decide +kernel
theorem dW_law_1315 : decode cW_law 1315 = .ok (.iaload, 1) := by decide +kernel
theorem dW_law_1316 : decode cW_law 1316 = .ok (.invokevirtual 134, 3) := by decide +kernel
theorem dW_law_1319 : decode cW_law 1319 = .ok (.lstore 6, 2) := by decide +kernel
theorem dW_law_1321 : decode cW_law 1321 = .ok (.aload_n 2, 1) := by decide +kernel
theorem dW_law_1322 : decode cW_law 1322 = .ok (.invokevirtual 80, 3) := by decide +kernel
theorem dW_law_1325 : decode cW_law 1325 = .ok (.iload 5, 2) := by decide +kernel
theorem dW_law_1327 : decode cW_law 1327 = .ok (.if_icmp .eq 5, 3) := by decide +kernel
theorem dW_law_1330 : decode cW_law 1330 = .ok (.iconst 0, 1) := by decide +kernel
theorem dW_law_1331 : decode cW_law 1331 = .ok (.ireturn, 1) := by decide +kernel
theorem dW_law_1332 : decode cW_law 1332 = .ok (.iload 5, 2) := by decide +kernel
theorem dW_law_1334 : decode cW_law 1334 = .ok (.ifCond .ne 14, 3) := by decide +kernel
theorem dW_law_1337 : decode cW_law 1337 = .ok (.aload_n 3, 1) := by decide +kernel
theorem dW_law_1338 : decode cW_law 1338 = .ok (.iconst 0, 1) := by decide +kernel
theorem dW_law_1339 : decode cW_law 1339 = .ok (.laload, 1) := by decide +kernel
theorem dW_law_1340 : decode cW_law 1340 = .ok (.lload 6, 2) := by decide +kernel
theorem dW_law_1342 : decode cW_law 1342 = .ok (.lcmp, 1) := by decide +kernel
theorem dW_law_1343 : decode cW_law 1343 = .ok (.ifCond .eq 5, 3) := by decide +kernel
theorem dW_law_1346 : decode cW_law 1346 = .ok (.iconst 0, 1) := by decide +kernel
theorem dW_law_1347 : decode cW_law 1347 = .ok (.ireturn, 1) := by decide +kernel
theorem dW_law_1348 : decode cW_law 1348 = .ok (.goto 95, 3) := by decide +kernel
theorem dW_law_1351 : decode cW_law 1351 = .ok (.aload_n 1, 1) := by decide +kernel
theorem dW_law_1352 : decode cW_law 1352 = .ok (.aload_n 0, 1) := by decide +kernel
theorem dW_law_1353 : decode cW_law 1353 = .ok (.iload 4, 2) := by decide +kernel
theorem dW_law_1355 : decode cW_law 1355 = .ok (.iconst 1, 1) := by decide +kernel
theorem dW_law_1356 : decode cW_law 1356 = .ok (.iadd, 1) := by decide +kernel
theorem dW_law_1357 : decode cW_law 1357 = .ok (.iaload, 1) := by decide +kernel
theorem dW_law_1358 : decode cW_law 1358 = .ok (.aload_n 0, 1) := by decide +kernel
theorem dW_law_1359 : decode cW_law 1359 = .ok (.iload 4, 2) := by decide +kernel
theorem dW_law_1361 : decode cW_law 1361 = .ok (.iconst 2, 1) := by decide +kernel
theorem dW_law_1362 : decode cW_law 1362 = .ok (.iadd, 1) := by decide +kernel
theorem dW_law_1363 : decode cW_law 1363 = .ok (.iaload, 1) := by decide +kernel
theorem dW_law_1364 : decode cW_law 1364 = .ok (.aload_n 3, 1) := by decide +kernel
theorem dW_law_1365 : decode cW_law 1365 = .ok (.invokestatic 135, 3) := by decide +kernel
theorem dW_law_1368 : decode cW_law 1368 = .ok (.istore 5, 2) := by decide +kernel
theorem dW_law_1370 : decode cW_law 1370 = .ok (.aload_n 2, 1) := by decide +kernel
theorem dW_law_1371 : decode cW_law 1371 = .ok (.aload_n 0, 1) := by decide +kernel
theorem dW_law_1372 : decode cW_law 1372 = .ok (.iload 4, 2) := by decide +kernel
theorem dW_law_1374 : decode cW_law 1374 = .ok (.iconst 1, 1) := by decide +kernel
theorem dW_law_1375 : decode cW_law 1375 = .ok (.iadd, 1) := by decide +kernel
theorem dW_law_1376 : decode cW_law 1376 = .ok (.iaload, 1) := by decide +kernel
theorem dW_law_1377 : decode cW_law 1377 = .ok (.aload_n 0, 1) := by decide +kernel
theorem dW_law_1378 : decode cW_law 1378 = .ok (.iload 4, 2) := by decide +kernel
theorem dW_law_1380 : decode cW_law 1380 = .ok (.iconst 2, 1) := by decide +kernel
theorem dW_law_1381 : decode cW_law 1381 = .ok (.iadd, 1) := by decide +kernel
theorem dW_law_1382 : decode cW_law 1382 = .ok (.iaload, 1) := by decide +kernel
theorem dW_law_1383 : decode cW_law 1383 = .ok (.invokevirtual 137, 3) := by decide +kernel
theorem dW_law_1386 : decode cW_law 1386 = .ok (.lstore 6, 2) := by decide +kernel
theorem dW_law_1388 : decode cW_law 1388 = .ok (.aload_n 2, 1) := by decide +kernel
theorem dW_law_1389 : decode cW_law 1389 = .ok (.invokevirtual 80, 3) := by decide +kernel
theorem dW_law_1392 : decode cW_law 1392 = .ok (.iload 5, 2) := by decide +kernel
theorem dW_law_1394 : decode cW_law 1394 = .ok (.if_icmp .eq 5, 3) := by decide +kernel
theorem dW_law_1397 : decode cW_law 1397 = .ok (.iconst 0, 1) := by decide +kernel
theorem dW_law_1398 : decode cW_law 1398 = .ok (.ireturn, 1) := by decide +kernel
theorem dW_law_1399 : decode cW_law 1399 = .ok (.iload 5, 2) := by decide +kernel
theorem dW_law_1401 : decode cW_law 1401 = .ok (.ifCond .ne 14, 3) := by decide +kernel
theorem dW_law_1404 : decode cW_law 1404 = .ok (.aload_n 3, 1) := by decide +kernel
theorem dW_law_1405 : decode cW_law 1405 = .ok (.iconst 0, 1) := by decide +kernel
theorem dW_law_1406 : decode cW_law 1406 = .ok (.laload, 1) := by decide +kernel
theorem dW_law_1407 : decode cW_law 1407 = .ok (.lload 6, 2) := by decide +kernel
theorem dW_law_1409 : decode cW_law 1409 = .ok (.lcmp, 1) := by decide +kernel
theorem dW_law_1410 : decode cW_law 1410 = .ok (.ifCond .eq 5, 3) := by decide +kernel
theorem dW_law_1413 : decode cW_law 1413 = .ok (.iconst 0, 1) := by decide +kernel
theorem dW_law_1414 : decode cW_law 1414 = .ok (.ireturn, 1) := by decide +kernel
theorem dW_law_1415 : decode cW_law 1415 = .ok (.goto 28, 3) := by decide +kernel
theorem dW_law_1418 : decode cW_law 1418 = .ok (.aload_n 1, 1) := by decide +kernel
theorem dW_law_1419 : decode cW_law 1419 = .ok (.aload_n 0, 1) := by decide +kernel
theorem dW_law_1420 : decode cW_law 1420 = .ok (.iload 4, 2) := by decide +kernel
theorem dW_law_1422 : decode cW_law 1422 = .ok (.iconst 1, 1) := by decide +kernel
theorem dW_law_1423 : decode cW_law 1423 = .ok (.iadd, 1) := by decide +kernel
theorem dW_law_1424 : decode cW_law 1424 = .ok (.iaload, 1) := by decide +kernel
theorem dW_law_1425 : decode cW_law 1425 = .ok (.invokevirtual 138, 3) := by decide +kernel
theorem dW_law_1428 : decode cW_law 1428 = .ok (.aload_n 2, 1) := by decide +kernel
theorem dW_law_1429 : decode cW_law 1429 = .ok (.aload_n 0, 1) := by decide +kernel
theorem dW_law_1430 : decode cW_law 1430 = .ok (.iload 4, 2) := by decide +kernel
theorem dW_law_1432 : decode cW_law 1432 = .ok (.iconst 1, 1) := by decide +kernel
theorem dW_law_1433 : decode cW_law 1433 = .ok (.iadd, 1) := by decide +kernel
theorem dW_law_1434 : decode cW_law 1434 = .ok (.iaload, 1) := by decide +kernel
theorem dW_law_1435 : decode cW_law 1435 = .ok (.invokevirtual 141, 3) := by decide +kernel
theorem dW_law_1438 : decode cW_law 1438 = .ok (.if_icmp .eq 5, 3) := by decide +kernel
theorem dW_law_1441 : decode cW_law 1441 = .ok (.iconst 0, 1) := by decide +kernel
theorem dW_law_1442 : decode cW_law 1442 = .ok (.ireturn, 1) := by decide +kernel
theorem dW_law_1443 : decode cW_law 1443 = .ok (.iinc 4 7, 3) := by decide +kernel
theorem dW_law_1446 : decode cW_law 1446 = .ok (.goto (-1423), 3) := by decide +kernel
theorem dW_law_1449 : decode cW_law 1449 = .ok (.iconst 1, 1) := by decide +kernel
theorem dW_law_1450 : decode cW_law 1450 = .ok (.ireturn, 1) := by decide +kernel
