set_option maxRecDepth 20000 in
theorem ggL_item_X6_item : GoodIn wsL_item wsX6_item := goodIn_ca (goodIn_r _ [6, 7, 8, 9, 10, 11, 12, 13, 14, 15, 16, 17, 18, 19, 20, 21, 22, 23, 24, 25, 26, 27, 28, 29, 30, 31, 32, 5, 33, 34, 35, 36, 37, 38, 39, 40, 41, 42, 43, 44, 45, 46, 47, 48, 49, 50, 51, 52, 53, 54, 55, 56, 57, 58, 59, 60, 61, 62, 63, 64, 65, 66, 67, 68, 69, 70, 71, 72, 73, 74, 75, 76, 77, 78, 79, 80, 81, 82, 83, 84, 85, 86, 87, 88, 89, 90, 91, 92, 93, 94, 95, 96, 97, 98, 99, 100, 101, 102, 103, 104, 105] (by decide +kernel) (by decide +kernel)) (goodIn_sub (fun _ h => List.mem_cons_of_mem _ (List.mem_append_right _ h)) (by decide +kernel))
set_option maxRecDepth 20000 in
theorem gL_item_X6_item : GoodIn wsL_item (wsV RL 7 RX6 yX6_item wsX6_item) := goodIn_app (goodIn_of _ (by decide +kernel)) ggL_item_X6_item
theorem dL_item_0 : decode cL_item 0 = .ok (.aload_n 3, 1) := by decide +kernel
theorem dL_item_1 : decode cL_item 1 = .ok (.iconst 0, 1) := by decide +kernel
theorem dL_item_2 : decode cL_item 2 = .ok (.aload_n 0, 1) := by decide +kernel
theorem dL_item_3 : decode cL_item 3 = .ok (.iload_n 1, 1) := by decide +kernel
theorem dL_item_4 : decode cL_item 4 = .ok (.iload_n 2, 1) := by decide +kernel
theorem dL_item_5 : decode cL_item 5 = .ok (.invokevirtual 7, 3) := by decide +kernel
theorem dL_item_8 : decode cL_item 8 = .ok (.i2l, 1) := by decide +kernel
theorem dL_item_9 : decode cL_item 9 = .ok (.lastore, 1) := by decide +kernel
theorem dL_item_10 : decode cL_item 10 = .ok (.goto 7, 3) := by decide +kernel
theorem dL_item_13 : decode cL_item 13 = .ok (.astore 4, 2) := by decide +kernel
theorem dL_item_15 : decode cL_item 15 = .ok (.iconst 1, 1) := by decide +kernel
theorem dL_item_16 : decode cL_item 16 = .ok (.ireturn, 1) := by decide +kernel
theorem dL_item_17 : decode cL_item 17 = .ok (.iconst 0, 1) := by decide +kernel
theorem dL_item_18 : decode cL_item 18 = .ok (.ireturn, 1) := by decide +kernel
set_option maxRecDepth 20000 in
theorem ggL_set_X6_set : GoodIn wsL_set wsX6_set := goodIn_ca (goodIn_r _ [6, 7, 8, 9, 10, 11, 12, 13, 14, 15, 16, 17, 18, 19, 20, 21, 22, 23, 24, 25, 26, 27, 28, 29, 30, 31, 32, 33, 34, 35, 36, 37, 38, 39, 40, 41, 42, 43, 44, 45, 46, 47, 48, 49, 50, 51, 52, 53, 54, 55, 56, 57, 58, 59, 60, 61, 62, 63, 64, 65, 66, 67, 68, 69, 70, 71, 72, 73, 74, 75, 76, 77, 78, 79, 80, 81, 82, 83, 84, 85] (by decide +kernel) (by decide +kernel)) (goodIn_sub (fun _ h => List.mem_cons_of_mem _ (List.mem_append_right _ h)) (by decide +kernel))
set_option maxRecDepth 20000 in
theorem gL_set_X6_set : GoodIn wsL_set (wsV RL 15 RX6 yX6_set wsX6_set) := goodIn_app (goodIn_of _ (by decide +kernel)) ggL_set_X6_set
theorem dL_set_0 : decode cL_set 0 = .ok (.aload_n 3, 1) := by decide +kernel
theorem dL_set_1 : decode cL_set 1 = .ok (.iconst 0, 1) := by decide +kernel
theorem dL_set_2 : decode cL_set 2 = .ok (.aload_n 0, 1) := by decide +kernel
theorem dL_set_3 : decode cL_set 3 = .ok (.iload_n 1, 1) := by decide +kernel
theorem dL_set_4 : decode cL_set 4 = .ok (.iload_n 2, 1) := by decide +kernel
theorem dL_set_5 : decode cL_set 5 = .ok (.invokevirtual 15, 3) := by decide +kernel
theorem dL_set_8 : decode cL_set 8 = .ok (.lastore, 1) := by decide +kernel
theorem dL_set_9 : decode cL_set 9 = .ok (.goto 7, 3) := by decide +kernel
theorem dL_set_12 : decode cL_set 12 = .ok (.astore 4, 2) := by decide +kernel
theorem dL_set_14 : decode cL_set 14 = .ok (.iconst 1, 1) := by decide +kernel
theorem dL_set_15 : decode cL_set 15 = .ok (.ireturn, 1) := by decide +kernel
theorem dL_set_16 : decode cL_set 16 = .ok (.iconst 0, 1) := by decide +kernel
theorem dL_set_17 : decode cL_set 17 = .ok (.ireturn, 1) := by decide +kernel
