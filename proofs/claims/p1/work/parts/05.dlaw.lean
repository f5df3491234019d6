theorem d_La_make_0 : decode b_La_make 0 = .ok (.aload_n 2, 1) := by decide +kernel
theorem d_La_make_1 : decode b_La_make 1 = .ok (.iconst 0, 1) := by decide +kernel
theorem d_La_make_2 : decode b_La_make 2 = .ok (.aload_n 0, 1) := by decide +kernel
theorem d_La_make_3 : decode b_La_make 3 = .ok (.iload_n 1, 1) := by decide +kernel
theorem d_La_make_4 : decode b_La_make 4 = .ok (.invokevirtual 7, 3) := by decide +kernel
theorem d_La_make_7 : decode b_La_make 7 = .ok (.i2l, 1) := by decide +kernel
theorem d_La_make_8 : decode b_La_make 8 = .ok (.lastore, 1) := by decide +kernel
theorem d_La_make_9 : decode b_La_make 9 = .ok (.goto 9, 3) := by decide +kernel
theorem d_La_make_12 : decode b_La_make 12 = .ok (.astore_n 3, 1) := by decide +kernel
theorem d_La_make_13 : decode b_La_make 13 = .ok (.iconst 1, 1) := by decide +kernel
theorem d_La_make_14 : decode b_La_make 14 = .ok (.ireturn, 1) := by decide +kernel
theorem d_La_make_15 : decode b_La_make 15 = .ok (.astore_n 3, 1) := by decide +kernel
theorem d_La_make_16 : decode b_La_make 16 = .ok (.iconst 2, 1) := by decide +kernel
theorem d_La_make_17 : decode b_La_make 17 = .ok (.ireturn, 1) := by decide +kernel
theorem d_La_make_18 : decode b_La_make 18 = .ok (.iconst 0, 1) := by decide +kernel
theorem d_La_make_19 : decode b_La_make 19 = .ok (.ireturn, 1) := by decide +kernel
theorem d_La_truth_0 : decode b_La_truth 0 = .ok (.aload_n 2, 1) := by decide +kernel
theorem d_La_truth_1 : decode b_La_truth 1 = .ok (.iconst 0, 1) := by decide +kernel
theorem d_La_truth_2 : decode b_La_truth 2 = .ok (.aload_n 0, 1) := by decide +kernel
theorem d_La_truth_3 : decode b_La_truth 3 = .ok (.iload_n 1, 1) := by decide +kernel
theorem d_La_truth_4 : decode b_La_truth 4 = .ok (.invokevirtual 17, 3) := by decide +kernel
theorem d_La_truth_7 : decode b_La_truth 7 = .ok (.i2l, 1) := by decide +kernel
theorem d_La_truth_8 : decode b_La_truth 8 = .ok (.lastore, 1) := by decide +kernel
theorem d_La_truth_9 : decode b_La_truth 9 = .ok (.goto 6, 3) := by decide +kernel
theorem d_La_truth_12 : decode b_La_truth 12 = .ok (.astore_n 3, 1) := by decide +kernel
theorem d_La_truth_13 : decode b_La_truth 13 = .ok (.iconst 1, 1) := by decide +kernel
theorem d_La_truth_14 : decode b_La_truth 14 = .ok (.ireturn, 1) := by decide +kernel
theorem d_La_truth_15 : decode b_La_truth 15 = .ok (.iconst 0, 1) := by decide +kernel
theorem d_La_truth_16 : decode b_La_truth 16 = .ok (.ireturn, 1) := by decide +kernel
theorem d_La_number_0 : decode b_La_number 0 = .ok (.aload_n 3, 1) := by decide +kernel
theorem d_La_number_1 : decode b_La_number 1 = .ok (.iconst 0, 1) := by decide +kernel
theorem d_La_number_2 : decode b_La_number 2 = .ok (.aload_n 0, 1) := by decide +kernel
theorem d_La_number_3 : decode b_La_number 3 = .ok (.iload_n 1, 1) := by decide +kernel
theorem d_La_number_4 : decode b_La_number 4 = .ok (.iload_n 2, 1) := by decide +kernel
theorem d_La_number_5 : decode b_La_number 5 = .ok (.invokevirtual 21, 3) := by decide +kernel
theorem d_La_number_8 : decode b_La_number 8 = .ok (.i2l, 1) := by decide +kernel
theorem d_La_number_9 : decode b_La_number 9 = .ok (.lastore, 1) := by decide +kernel
theorem d_La_number_10 : decode b_La_number 10 = .ok (.goto 11, 3) := by decide +kernel
theorem d_La_number_13 : decode b_La_number 13 = .ok (.astore 4, 2) := by decide +kernel
theorem d_La_number_15 : decode b_La_number 15 = .ok (.iconst 1, 1) := by decide +kernel
theorem d_La_number_16 : decode b_La_number 16 = .ok (.ireturn, 1) := by decide +kernel
theorem d_La_number_17 : decode b_La_number 17 = .ok (.astore 4, 2) := by decide +kernel
theorem d_La_number_19 : decode b_La_number 19 = .ok (.iconst 2, 1) := by decide +kernel
theorem d_La_number_20 : decode b_La_number 20 = .ok (.ireturn, 1) := by decide +kernel
theorem d_La_number_21 : decode b_La_number 21 = .ok (.iconst 0, 1) := by decide +kernel
theorem d_La_number_22 : decode b_La_number 22 = .ok (.ireturn, 1) := by decide +kernel
theorem d_La_text_0 : decode b_La_text 0 = .ok (.aload_n 2, 1) := by decide +kernel
theorem d_La_text_1 : decode b_La_text 1 = .ok (.iconst 0, 1) := by decide +kernel
theorem d_La_text_2 : decode b_La_text 2 = .ok (.aload_n 0, 1) := by decide +kernel
theorem d_La_text_3 : decode b_La_text 3 = .ok (.iload_n 1, 1) := by decide +kernel
theorem d_La_text_4 : decode b_La_text 4 = .ok (.invokevirtual 25, 3) := by decide +kernel
theorem d_La_text_7 : decode b_La_text 7 = .ok (.i2l, 1) := by decide +kernel
theorem d_La_text_8 : decode b_La_text 8 = .ok (.lastore, 1) := by decide +kernel
theorem d_La_text_9 : decode b_La_text 9 = .ok (.goto 9, 3) := by decide +kernel
theorem d_La_text_12 : decode b_La_text 12 = .ok (.astore_n 3, 1) := by decide +kernel
theorem d_La_text_13 : decode b_La_text 13 = .ok (.iconst 1, 1) := by decide +kernel
theorem d_La_text_14 : decode b_La_text 14 = .ok (.ireturn, 1) := by decide +kernel
theorem d_La_text_15 : decode b_La_text 15 = .ok (.astore_n 3, 1) := by decide +kernel
theorem d_La_text_16 : decode b_La_text 16 = .ok (.iconst 2, 1) := by decide +kernel
theorem d_La_text_17 : decode b_La_text 17 = .ok (.ireturn, 1) := by decide +kernel
theorem d_La_text_18 : decode b_La_text 18 = .ok (.iconst 0, 1) := by decide +kernel
theorem d_La_text_19 : decode b_La_text 19 = .ok (.ireturn, 1) := by decide +kernel
theorem d_La_push_0 : decode b_La_push 0 = .ok (.aload_n 3, 1) := by decide +kernel
theorem d_La_push_1 : decode b_La_push 1 = .ok (.iconst 0, 1) := by decide +kernel
theorem d_La_push_2 : decode b_La_push 2 = .ok (.aload_n 0, 1) := by decide +kernel
theorem d_La_push_3 : decode b_La_push 3 = .ok (.iload_n 1, 1) := by decide +kernel
theorem d_La_push_4 : decode b_La_push 4 = .ok (.iload_n 2, 1) := by decide +kernel
theorem d_La_push_5 : decode b_La_push 5 = .ok (.invokevirtual 28, 3) := by decide +kernel
theorem d_La_push_8 : decode b_La_push 8 = .ok (.i2l, 1) := by decide +kernel
theorem d_La_push_9 : decode b_La_push 9 = .ok (.lastore, 1) := by decide +kernel
theorem d_La_push_10 : decode b_La_push 10 = .ok (.goto 11, 3) := by decide +kernel
theorem d_La_push_13 : decode b_La_push 13 = .ok (.astore 4, 2) := by decide +kernel
theorem d_La_push_15 : decode b_La_push 15 = .ok (.iconst 1, 1) := by decide +kernel
theorem d_La_push_16 : decode b_La_push 16 = .ok (.ireturn, 1) := by decide +kernel
theorem d_La_push_17 : decode b_La_push 17 = .ok (.astore 4, 2) := by decide +kernel
theorem d_La_push_19 : decode b_La_push 19 = .ok (.iconst 2, 1) := by decide +kernel
theorem d_La_push_20 : decode b_La_push 20 = .ok (.ireturn, 1) := by decide +kernel
theorem d_La_push_21 : decode b_La_push 21 = .ok (.iconst 0, 1) := by decide +kernel
theorem d_La_push_22 : decode b_La_push 22 = .ok (.ireturn, 1) := by decide +kernel
theorem d_La_put_0 : decode b_La_put 0 = .ok (.aload_n 0, 1) := by decide +kernel
theorem d_La_put_1 : decode b_La_put 1 = .ok (.iload_n 1, 1) := by decide +kernel
theorem d_La_put_2 : decode b_La_put 2 = .ok (.iload_n 2, 1) := by decide +kernel
theorem d_La_put_3 : decode b_La_put 3 = .ok (.iload_n 3, 1) := by decide +kernel
theorem d_La_put_4 : decode b_La_put 4 = .ok (.invokevirtual 31, 3) := by decide +kernel
theorem d_La_put_7 : decode b_La_put 7 = .ok (.goto 7, 3) := by decide +kernel
theorem d_La_put_10 : decode b_La_put 10 = .ok (.astore 4, 2) := by decide +kernel
theorem d_La_put_12 : decode b_La_put 12 = .ok (.iconst 1, 1) := by decide +kernel
theorem d_La_put_13 : decode b_La_put 13 = .ok (.ireturn, 1) := by decide +kernel
theorem d_La_put_14 : decode b_La_put 14 = .ok (.iconst 0, 1) := by decide +kernel
theorem d_La_put_15 : decode b_La_put 15 = .ok (.ireturn, 1) := by decide +kernel
theorem d_La_item_0 : decode b_La_item 0 = .ok (.aload 4, 2) := by decide +kernel
theorem d_La_item_2 : decode b_La_item 2 = .ok (.iconst 0, 1) := by decide +kernel
theorem d_La_item_3 : decode b_La_item 3 = .ok (.aload_n 0, 1) := by decide +kernel
theorem d_La_item_4 : decode b_La_item 4 = .ok (.iload_n 1, 1) := by decide +kernel
theorem d_La_item_5 : decode b_La_item 5 = .ok (.iload_n 2, 1) := by decide +kernel
theorem d_La_item_6 : decode b_La_item 6 = .ok (.iload_n 3, 1) := by decide +kernel
theorem d_La_item_7 : decode b_La_item 7 = .ok (.invokevirtual 35, 3) := by decide +kernel
theorem d_La_item_10 : decode b_La_item 10 = .ok (.i2l, 1) := by decide +kernel
theorem d_La_item_11 : decode b_La_item 11 = .ok (.lastore, 1) := by decide +kernel
theorem d_La_item_12 : decode b_La_item 12 = .ok (.goto 11, 3) := by decide +kernel
theorem d_La_item_15 : decode b_La_item 15 = .ok (.astore 5, 2) := by decide +kernel
theorem d_La_item_17 : decode b_La_item 17 = .ok (.iconst 1, 1) := by decide +kernel
theorem d_La_item_18 : decode b_La_item 18 = .ok (.ireturn, 1) := by decide +kernel
theorem d_La_item_19 : decode b_La_item 19 = .ok (.astore 5, 2) := by decide +kernel
theorem d_La_item_21 : decode b_La_item 21 = .ok (.iconst 2, 1) := by decide +kernel
theorem d_La_item_22 : decode b_La_item 22 = .ok (.ireturn, 1) := by decide +kernel
theorem d_La_item_23 : decode b_La_item 23 = .ok (.iconst 0, 1) := by decide +kernel
theorem d_La_item_24 : decode b_La_item 24 = .ok (.ireturn, 1) := by decide +kernel
theorem d_La_bind_0 : decode b_La_bind 0 = .ok (.aload_n 0, 1) := by decide +kernel
theorem d_La_bind_1 : decode b_La_bind 1 = .ok (.iload_n 1, 1) := by decide +kernel
theorem d_La_bind_2 : decode b_La_bind 2 = .ok (.iload_n 2, 1) := by decide +kernel
theorem d_La_bind_3 : decode b_La_bind 3 = .ok (.iload_n 3, 1) := by decide +kernel
theorem d_La_bind_4 : decode b_La_bind 4 = .ok (.invokevirtual 39, 3) := by decide +kernel
theorem d_La_bind_7 : decode b_La_bind 7 = .ok (.goto 7, 3) := by decide +kernel
theorem d_La_bind_10 : decode b_La_bind 10 = .ok (.astore 4, 2) := by decide +kernel
theorem d_La_bind_12 : decode b_La_bind 12 = .ok (.iconst 1, 1) := by decide +kernel
theorem d_La_bind_13 : decode b_La_bind 13 = .ok (.ireturn, 1) := by decide +kernel
theorem d_La_bind_14 : decode b_La_bind 14 = .ok (.iconst 0, 1) := by decide +kernel
theorem d_La_bind_15 : decode b_La_bind 15 = .ok (.ireturn, 1) := by decide +kernel
theorem d_La_schema_0 : decode b_La_schema 0 = .ok (.aload_n 1, 1) := by decide +kernel
theorem d_La_schema_1 : decode b_La_schema 1 = .ok (.iconst 0, 1) := by decide +kernel
theorem d_La_schema_2 : decode b_La_schema 2 = .ok (.aload_n 0, 1) := by decide +kernel
theorem d_La_schema_3 : decode b_La_schema 3 = .ok (.invokevirtual 43, 3) := by decide +kernel
theorem d_La_schema_6 : decode b_La_schema 6 = .ok (.i2l, 1) := by decide +kernel
theorem d_La_schema_7 : decode b_La_schema 7 = .ok (.lastore, 1) := by decide +kernel
theorem d_La_schema_8 : decode b_La_schema 8 = .ok (.goto 6, 3) := by decide +kernel
theorem d_La_schema_11 : decode b_La_schema 11 = .ok (.astore_n 2, 1) := by decide +kernel
theorem d_La_schema_12 : decode b_La_schema 12 = .ok (.iconst 1, 1) := by decide +kernel
theorem d_La_schema_13 : decode b_La_schema 13 = .ok (.ireturn, 1) := by decide +kernel
theorem d_La_schema_14 : decode b_La_schema 14 = .ok (.iconst 0, 1) := by decide +kernel
theorem d_La_schema_15 : decode b_La_schema 15 = .ok (.ireturn, 1) := by decide +kernel
theorem d_La_rule_0 : decode b_La_rule 0 = .ok (.aload_n 0, 1) := by decide +kernel
theorem d_La_rule_1 : decode b_La_rule 1 = .ok (.iload_n 1, 1) := by decide +kernel
theorem d_La_rule_2 : decode b_La_rule 2 = .ok (.iload_n 2, 1) := by decide +kernel
theorem d_La_rule_3 : decode b_La_rule 3 = .ok (.iload_n 3, 1) := by decide +kernel
theorem d_La_rule_4 : decode b_La_rule 4 = .ok (.invokevirtual 47, 3) := by decide +kernel
theorem d_La_rule_7 : decode b_La_rule 7 = .ok (.goto 7, 3) := by decide +kernel
theorem d_La_rule_10 : decode b_La_rule 10 = .ok (.astore 4, 2) := by decide +kernel
theorem d_La_rule_12 : decode b_La_rule 12 = .ok (.iconst 1, 1) := by decide +kernel
theorem d_La_rule_13 : decode b_La_rule 13 = .ok (.ireturn, 1) := by decide +kernel
theorem d_La_rule_14 : decode b_La_rule 14 = .ok (.iconst 0, 1) := by decide +kernel
theorem d_La_rule_15 : decode b_La_rule 15 = .ok (.ireturn, 1) := by decide +kernel
theorem d_La_list_0 : decode b_La_list 0 = .ok (.aload 4, 2) := by decide +kernel
theorem d_La_list_2 : decode b_La_list 2 = .ok (.iconst 0, 1) := by decide +kernel
theorem d_La_list_3 : decode b_La_list 3 = .ok (.aload_n 0, 1) := by decide +kernel
theorem d_La_list_4 : decode b_La_list 4 = .ok (.iload_n 1, 1) := by decide +kernel
theorem d_La_list_5 : decode b_La_list 5 = .ok (.iload_n 2, 1) := by decide +kernel
theorem d_La_list_6 : decode b_La_list 6 = .ok (.iload_n 3, 1) := by decide +kernel
theorem d_La_list_7 : decode b_La_list 7 = .ok (.invokevirtual 50, 3) := by decide +kernel
theorem d_La_list_10 : decode b_La_list 10 = .ok (.i2l, 1) := by decide +kernel
theorem d_La_list_11 : decode b_La_list 11 = .ok (.lastore, 1) := by decide +kernel
theorem d_La_list_12 : decode b_La_list 12 = .ok (.goto 11, 3) := by decide +kernel
theorem d_La_list_15 : decode b_La_list 15 = .ok (.astore 5, 2) := by decide +kernel
theorem d_La_list_17 : decode b_La_list 17 = .ok (.iconst 1, 1) := by decide +kernel
theorem d_La_list_18 : decode b_La_list 18 = .ok (.ireturn, 1) := by decide +kernel
theorem d_La_list_19 : decode b_La_list 19 = .ok (.astore 5, 2) := by decide +kernel
theorem d_La_list_21 : decode b_La_list 21 = .ok (.iconst 2, 1) := by decide +kernel
theorem d_La_list_22 : decode b_La_list 22 = .ok (.ireturn, 1) := by decide +kernel
theorem d_La_list_23 : decode b_La_list 23 = .ok (.iconst 0, 1) := by decide +kernel
theorem d_La_list_24 : decode b_La_list 24 = .ok (.ireturn, 1) := by decide +kernel
theorem d_La_named_0 : decode b_La_named 0 = .ok (.aload_n 0, 1) := by decide +kernel
theorem d_La_named_1 : decode b_La_named 1 = .ok (.iload_n 1, 1) := by decide +kernel
theorem d_La_named_2 : decode b_La_named 2 = .ok (.iload_n 2, 1) := by decide +kernel
theorem d_La_named_3 : decode b_La_named 3 = .ok (.iload_n 3, 1) := by decide +kernel
theorem d_La_named_4 : decode b_La_named 4 = .ok (.iload 4, 2) := by decide +kernel
theorem d_La_named_6 : decode b_La_named 6 = .ok (.invokevirtual 53, 3) := by decide +kernel
theorem d_La_named_9 : decode b_La_named 9 = .ok (.goto 7, 3) := by decide +kernel
theorem d_La_named_12 : decode b_La_named 12 = .ok (.astore 5, 2) := by decide +kernel
theorem d_La_named_14 : decode b_La_named 14 = .ok (.iconst 1, 1) := by decide +kernel
theorem d_La_named_15 : decode b_La_named 15 = .ok (.ireturn, 1) := by decide +kernel
theorem d_La_named_16 : decode b_La_named 16 = .ok (.iconst 0, 1) := by decide +kernel
theorem d_La_named_17 : decode b_La_named 17 = .ok (.ireturn, 1) := by decide +kernel
theorem d_La_judge_0 : decode b_La_judge 0 = .ok (.aload_n 3, 1) := by decide +kernel
theorem d_La_judge_1 : decode b_La_judge 1 = .ok (.iconst 0, 1) := by decide +kernel
theorem d_La_judge_2 : decode b_La_judge 2 = .ok (.aload_n 0, 1) := by decide +kernel
theorem d_La_judge_3 : decode b_La_judge 3 = .ok (.iload_n 1, 1) := by decide +kernel
theorem d_La_judge_4 : decode b_La_judge 4 = .ok (.iload_n 2, 1) := by decide +kernel
theorem d_La_judge_5 : decode b_La_judge 5 = .ok (.invokevirtual 57, 3) := by decide +kernel
theorem d_La_judge_8 : decode b_La_judge 8 = .ok (.ifCond .eq 7, 3) := by decide +kernel
theorem d_La_judge_11 : decode b_La_judge 11 = .ok (.lconst 1, 1) := by decide +kernel
theorem d_La_judge_12 : decode b_La_judge 12 = .ok (.goto 4, 3) := by decide +kernel
theorem d_La_judge_15 : decode b_La_judge 15 = .ok (.lconst 0, 1) := by decide +kernel
theorem d_La_judge_16 : decode b_La_judge 16 = .ok (.lastore, 1) := by decide +kernel
theorem d_La_judge_17 : decode b_La_judge 17 = .ok (.goto 15, 3) := by decide +kernel
theorem d_La_judge_20 : decode b_La_judge 20 = .ok (.astore 4, 2) := by decide +kernel
theorem d_La_judge_22 : decode b_La_judge 22 = .ok (.iconst 1, 1) := by decide +kernel
theorem d_La_judge_23 : decode b_La_judge 23 = .ok (.ireturn, 1) := by decide +kernel
theorem d_La_judge_24 : decode b_La_judge 24 = .ok (.astore 4, 2) := by decide +kernel
theorem d_La_judge_26 : decode b_La_judge 26 = .ok (.iconst 2, 1) := by decide +kernel
theorem d_La_judge_27 : decode b_La_judge 27 = .ok (.ireturn, 1) := by decide +kernel
theorem d_La_judge_28 : decode b_La_judge 28 = .ok (.astore 4, 2) := by decide +kernel
theorem d_La_judge_30 : decode b_La_judge 30 = .ok (.iconst 3, 1) := by decide +kernel
theorem d_La_judge_31 : decode b_La_judge 31 = .ok (.ireturn, 1) := by decide +kernel
theorem d_La_judge_32 : decode b_La_judge 32 = .ok (.iconst 0, 1) := by decide +kernel
theorem d_La_judge_33 : decode b_La_judge 33 = .ok (.ireturn, 1) := by decide +kernel
theorem d_La_marks_0 : decode b_La_marks 0 = .ok (.aload_n 3, 1) := by decide +kernel
theorem d_La_marks_1 : decode b_La_marks 1 = .ok (.iconst 0, 1) := by decide +kernel
theorem d_La_marks_2 : decode b_La_marks 2 = .ok (.aload_n 0, 1) := by decide +kernel
theorem d_La_marks_3 : decode b_La_marks 3 = .ok (.iload_n 1, 1) := by decide +kernel
theorem d_La_marks_4 : decode b_La_marks 4 = .ok (.iload_n 2, 1) := by decide +kernel
theorem d_La_marks_5 : decode b_La_marks 5 = .ok (.invokevirtual 63, 3) := by decide +kernel
theorem d_La_marks_8 : decode b_La_marks 8 = .ok (.i2l, 1) := by decide +kernel
theorem d_La_marks_9 : decode b_La_marks 9 = .ok (.lastore, 1) := by decide +kernel
theorem d_La_marks_10 : decode b_La_marks 10 = .ok (.goto 7, 3) := by decide +kernel
theorem d_La_marks_13 : decode b_La_marks 13 = .ok (.astore 4, 2) := by decide +kernel
theorem d_La_marks_15 : decode b_La_marks 15 = .ok (.iconst 1, 1) := by decide +kernel
theorem d_La_marks_16 : decode b_La_marks 16 = .ok (.ireturn, 1) := by decide +kernel
theorem d_La_marks_17 : decode b_La_marks 17 = .ok (.iconst 0, 1) := by decide +kernel
theorem d_La_marks_18 : decode b_La_marks 18 = .ok (.ireturn, 1) := by decide +kernel
theorem d_La_fault_0 : decode b_La_fault 0 = .ok (.aload_n 2, 1) := by decide +kernel
theorem d_La_fault_1 : decode b_La_fault 1 = .ok (.iconst 0, 1) := by decide +kernel
theorem d_La_fault_2 : decode b_La_fault 2 = .ok (.aload_n 0, 1) := by decide +kernel
theorem d_La_fault_3 : decode b_La_fault 3 = .ok (.iload_n 1, 1) := by decide +kernel
theorem d_La_fault_4 : decode b_La_fault 4 = .ok (.invokevirtual 66, 3) := by decide +kernel
theorem d_La_fault_7 : decode b_La_fault 7 = .ok (.i2l, 1) := by decide +kernel
theorem d_La_fault_8 : decode b_La_fault 8 = .ok (.lastore, 1) := by decide +kernel
theorem d_La_fault_9 : decode b_La_fault 9 = .ok (.goto 6, 3) := by decide +kernel
theorem d_La_fault_12 : decode b_La_fault 12 = .ok (.astore_n 3, 1) := by decide +kernel
theorem d_La_fault_13 : decode b_La_fault 13 = .ok (.iconst 1, 1) := by decide +kernel
theorem d_La_fault_14 : decode b_La_fault 14 = .ok (.ireturn, 1) := by decide +kernel
theorem d_La_fault_15 : decode b_La_fault 15 = .ok (.iconst 0, 1) := by decide +kernel
theorem d_La_fault_16 : decode b_La_fault 16 = .ok (.ireturn, 1) := by decide +kernel
theorem d_La_equal_0 : decode b_La_equal 0 = .ok (.aload_n 3, 1) := by decide +kernel
theorem d_La_equal_1 : decode b_La_equal 1 = .ok (.iconst 0, 1) := by decide +kernel
theorem d_La_equal_2 : decode b_La_equal 2 = .ok (.aload_n 0, 1) := by decide +kernel
theorem d_La_equal_3 : decode b_La_equal 3 = .ok (.iload_n 1, 1) := by decide +kernel
theorem d_La_equal_4 : decode b_La_equal 4 = .ok (.iload_n 2, 1) := by decide +kernel
theorem d_La_equal_5 : decode b_La_equal 5 = .ok (.invokevirtual 71, 3) := by decide +kernel
theorem d_La_equal_8 : decode b_La_equal 8 = .ok (.ifCond .eq 7, 3) := by decide +kernel
theorem d_La_equal_11 : decode b_La_equal 11 = .ok (.lconst 1, 1) := by decide +kernel
theorem d_La_equal_12 : decode b_La_equal 12 = .ok (.goto 4, 3) := by decide +kernel
theorem d_La_equal_15 : decode b_La_equal 15 = .ok (.lconst 0, 1) := by decide +kernel
theorem d_La_equal_16 : decode b_La_equal 16 = .ok (.lastore, 1) := by decide +kernel
theorem d_La_equal_17 : decode b_La_equal 17 = .ok (.goto 7, 3) := by decide +kernel
theorem d_La_equal_20 : decode b_La_equal 20 = .ok (.astore 4, 2) := by decide +kernel
theorem d_La_equal_22 : decode b_La_equal 22 = .ok (.iconst 1, 1) := by decide +kernel
theorem d_La_equal_23 : decode b_La_equal 23 = .ok (.ireturn, 1) := by decide +kernel
theorem d_La_equal_24 : decode b_La_equal 24 = .ok (.iconst 0, 1) := by decide +kernel
theorem d_La_equal_25 : decode b_La_equal 25 = .ok (.ireturn, 1) := by decide +kernel
theorem d_La_law_0 : decode code 0 = .ok (.new 8, 3) := by decide +kernel
theorem d_La_law_3 : decode code 3 = .ok (.dup, 1) := by decide +kernel
theorem d_La_law_4 : decode code 4 = .ok (.invokespecial 74, 3) := by decide +kernel
theorem d_La_law_7 : decode code 7 = .ok (.astore_n 1, 1) := by decide +kernel
theorem d_La_law_8 : decode code 8 = .ok (.new 75, 3) := by decide +kernel
theorem d_La_law_11 : decode code 11 = .ok (.dup, 1) := by decide +kernel
theorem d_La_law_12 : decode code 12 = .ok (.invokespecial 77, 3) := by decide +kernel
theorem d_La_law_15 : decode code 15 = .ok (.astore_n 2, 1) := by decide +kernel
theorem d_La_law_16 : decode code 16 = .ok (.iconst 1, 1) := by decide +kernel
theorem d_La_law_17 : decode code 17 = .ok (.newarray .long, 2) := by decide +kernel
theorem d_La_law_19 : decode code 19 = .ok (.astore_n 3, 1) := by decide +kernel
theorem d_La_law_20 : decode code 20 = .ok (.iconst 0, 1) := by decide +kernel
theorem d_La_law_21 : decode code 21 = .ok (.istore 4, 2) := by decide +kernel
theorem d_La_law_23 : decode code 23 = .ok (.iload 4, 2) := by decide +kernel
theorem d_La_law_25 : decode code 25 = .ok (.aload_n 0, 1) := by decide +kernel
theorem d_La_law_26 : decode code 26 = .ok (.arraylength, 1) := by decide +kernel
theorem d_La_law_27 : decode code 27 = .ok (.iconst 5, 1) := by decide +kernel
theorem d_La_law_28 : decode code 28 = .ok (.isub, 1) := by decide +kernel
theorem d_La_law_29 : decode code 29 = .ok (.if_icmp .gt 1192, 3) := by decide +kernel
theorem d_La_law_32 : decode code 32 = .ok (.aload_n 0, 1) := by decide +kernel
theorem d_La_law_33 : decode code 33 = .ok (.iload 4, 2) := by decide +kernel
theorem d_La_law_35 : decode code 35 = .ok (.iaload, 1) := by decide +kernel
theorem d_La_law_36 : decode code 36 = .ok (.bipush 31, 2) := by decide +kernel
theorem d_La_law_38 : decode code 38 = .ok (.iand, 1) := by decide +kernel
theorem d_La_law_39 : decode code 39 = .ok (.tableswitch 1176 0 16 #[81, 137, 209, 277, 333, 401, 461, 541, 633, 677, 737, 817, 889, 964, 1032, 1045, 1101], 81) := by decide +kernel
theorem d_La_law_120 : decode code 120 = .ok (.aload_n 1, 1) := by decide +kernel
theorem d_La_law_121 : decode code 121 = .ok (.aload_n 0, 1) := by decide +kernel
theorem d_La_law_122 : decode code 122 = .ok (.iload 4, 2) := by decide +kernel
theorem d_La_law_124 : decode code 124 = .ok (.iconst 1, 1) := by decide +kernel
theorem d_La_law_125 : decode code 125 = .ok (.iadd, 1) := by decide +kernel
theorem d_La_law_126 : decode code 126 = .ok (.iaload, 1) := by decide +kernel
theorem d_La_law_127 : decode code 127 = .ok (.aload_n 3, 1) := by decide +kernel
theorem d_La_law_128 : decode code 128 = .ok (.invokestatic 78, 3) := by decide +kernel
theorem d_La_law_131 : decode code 131 = .ok (.istore 5, 2) := by decide +kernel
theorem d_La_law_133 : decode code 133 = .ok (.aload_n 2, 1) := by decide +kernel
theorem d_La_law_134 : decode code 134 = .ok (.aload_n 0, 1) := by decide +kernel
theorem d_La_law_135 : decode code 135 = .ok (.iload 4, 2) := by decide +kernel
theorem d_La_law_137 : decode code 137 = .ok (.iconst 1, 1) := by decide +kernel
theorem d_La_law_138 : decode code 138 = .ok (.iadd, 1) := by decide +kernel
theorem d_La_law_139 : decode code 139 = .ok (.iaload, 1) := by decide +kernel
theorem d_La_law_140 : decode code 140 = .ok (.invokevirtual 83, 3) := by decide +kernel
theorem d_La_law_143 : decode code 143 = .ok (.istore 6, 2) := by decide +kernel
theorem d_La_law_145 : decode code 145 = .ok (.aload_n 2, 1) := by decide +kernel
theorem d_La_law_146 : decode code 146 = .ok (.invokevirtual 84, 3) := by decide +kernel
theorem d_La_law_149 : decode code 149 = .ok (.iload 5, 2) := by decide +kernel
theorem d_La_law_151 : decode code 151 = .ok (.if_icmp .eq 5, 3) := by decide +kernel
theorem d_La_law_154 : decode code 154 = .ok (.iconst 0, 1) := by decide +kernel
theorem d_La_law_155 : decode code 155 = .ok (.ireturn, 1) := by decide +kernel
theorem d_La_law_156 : decode code 156 = .ok (.iload 5, 2) := by decide +kernel
theorem d_La_law_158 : decode code 158 = .ok (.ifCond .ne 15, 3) := by decide +kernel
theorem d_La_law_161 : decode code 161 = .ok (.aload_n 3, 1) := by decide +kernel
theorem d_La_law_162 : decode code 162 = .ok (.iconst 0, 1) := by decide +kernel
theorem d_La_law_163 : decode code 163 = .ok (.laload, 1) := by decide +kernel
theorem d_La_law_164 : decode code 164 = .ok (.iload 6, 2) := by decide +kernel
theorem d_La_law_166 : decode code 166 = .ok (.i2l, 1) := by decide +kernel
theorem d_La_law_167 : decode code 167 = .ok (.lcmp, 1) := by decide +kernel
theorem d_La_law_168 : decode code 168 = .ok (.ifCond .eq 5, 3) := by decide +kernel
theorem d_La_law_171 : decode code 171 = .ok (.iconst 0, 1) := by decide +kernel
theorem d_La_law_172 : decode code 172 = .ok (.ireturn, 1) := by decide +kernel
theorem d_La_law_173 : decode code 173 = .ok (.goto 1042, 3) := by decide +kernel
theorem d_La_law_176 : decode code 176 = .ok (.aload_n 1, 1) := by decide +kernel
theorem d_La_law_177 : decode code 177 = .ok (.aload_n 0, 1) := by decide +kernel
theorem d_La_law_178 : decode code 178 = .ok (.iload 4, 2) := by decide +kernel
theorem d_La_law_180 : decode code 180 = .ok (.iconst 1, 1) := by decide +kernel
theorem d_La_law_181 : decode code 181 = .ok (.iadd, 1) := by decide +kernel
theorem d_La_law_182 : decode code 182 = .ok (.iaload, 1) := by decide +kernel
theorem d_La_law_183 : decode code 183 = .ok (.ifCond .eq 7, 3) := by decide +kernel
theorem d_La_law_186 : decode code 186 = .ok (.iconst 1, 1) := by decide +kernel
theorem d_La_law_187 : decode code 187 = .ok (.goto 4, 3) := by decide +kernel
theorem d_La_law_190 : decode code 190 = .ok (.iconst 0, 1) := by decide +kernel
theorem d_La_law_191 : decode code 191 = .ok (.aload_n 3, 1) := by decide +kernel
theorem d_La_law_192 : decode code 192 = .ok (.invokestatic 87, 3) := by decide +kernel
theorem d_La_law_195 : decode code 195 = .ok (.istore 5, 2) := by decide +kernel
theorem d_La_law_197 : decode code 197 = .ok (.aload_n 2, 1) := by decide +kernel
theorem d_La_law_198 : decode code 198 = .ok (.aload_n 0, 1) := by decide +kernel
theorem d_La_law_199 : decode code 199 = .ok (.iload 4, 2) := by decide +kernel
theorem d_La_law_201 : decode code 201 = .ok (.iconst 1, 1) := by decide +kernel
theorem d_La_law_202 : decode code 202 = .ok (.iadd, 1) := by decide +kernel
theorem d_La_law_203 : decode code 203 = .ok (.iaload, 1) := by decide +kernel
theorem d_La_law_204 : decode code 204 = .ok (.ifCond .eq 7, 3) := by decide +kernel
theorem d_La_law_207 : decode code 207 = .ok (.iconst 1, 1) := by decide +kernel
theorem d_La_law_208 : decode code 208 = .ok (.goto 4, 3) := by decide +kernel
theorem d_La_law_211 : decode code 211 = .ok (.iconst 0, 1) := by decide +kernel
theorem d_La_law_212 : decode code 212 = .ok (.invokevirtual 90, 3) := by decide +kernel
theorem d_La_law_215 : decode code 215 = .ok (.istore 6, 2) := by decide +kernel
theorem d_La_law_217 : decode code 217 = .ok (.aload_n 2, 1) := by decide +kernel
theorem d_La_law_218 : decode code 218 = .ok (.invokevirtual 84, 3) := by decide +kernel
theorem d_La_law_221 : decode code 221 = .ok (.iload 5, 2) := by decide +kernel
theorem d_La_law_223 : decode code 223 = .ok (.if_icmp .eq 5, 3) := by decide +kernel
theorem d_La_law_226 : decode code 226 = .ok (.iconst 0, 1) := by decide +kernel
theorem d_La_law_227 : decode code 227 = .ok (.ireturn, 1) := by decide +kernel
theorem d_La_law_228 : decode code 228 = .ok (.iload 5, 2) := by decide +kernel
theorem d_La_law_230 : decode code 230 = .ok (.ifCond .ne 15, 3) := by decide +kernel
theorem d_La_law_233 : decode code 233 = .ok (.aload_n 3, 1) := by decide +kernel
theorem d_La_law_234 : decode code 234 = .ok (.iconst 0, 1) := by decide +kernel
theorem d_La_law_235 : decode code 235 = .ok (.laload, 1) := by decide +kernel
theorem d_La_law_236 : decode code 236 = .ok (.iload 6, 2) := by decide +kernel
theorem d_La_law_238 : decode code 238 = .ok (.i2l, 1) := by decide +kernel
theorem d_La_law_239 : decode code 239 = .ok (.lcmp, 1) := by decide +kernel
theorem d_La_law_240 : decode code 240 = .ok (.ifCond .eq 5, 3) := by decide +kernel
theorem d_La_law_243 : decode code 243 = .ok (.iconst 0, 1) := by decide +kernel
theorem d_La_law_244 : decode code 244 = .ok (.ireturn, 1) := by decide +kernel
theorem d_La_law_245 : decode code 245 = .ok (.goto 970, 3) := by decide +kernel
theorem d_La_law_248 : decode code 248 = .ok (.aload_n 1, 1) := by decide +kernel
theorem d_La_law_249 : decode code 249 = .ok (.aload_n 0, 1) := by decide +kernel
theorem d_La_law_250 : decode code 250 = .ok (.iload 4, 2) := by decide +kernel
theorem d_La_law_252 : decode code 252 = .ok (.iconst 1, 1) := by decide +kernel
theorem d_La_law_253 : decode code 253 = .ok (.iadd, 1) := by decide +kernel
theorem d_La_law_254 : decode code 254 = .ok (.iaload, 1) := by decide +kernel
theorem d_La_law_255 : decode code 255 = .ok (.aload_n 0, 1) := by decide +kernel
theorem d_La_law_256 : decode code 256 = .ok (.iload 4, 2) := by decide +kernel
theorem d_La_law_258 : decode code 258 = .ok (.iconst 2, 1) := by decide +kernel
theorem d_La_law_259 : decode code 259 = .ok (.iadd, 1) := by decide +kernel
theorem d_La_law_260 : decode code 260 = .ok (.iaload, 1) := by decide +kernel
theorem d_La_law_261 : decode code 261 = .ok (.aload_n 3, 1) := by decide +kernel
theorem d_La_law_262 : decode code 262 = .ok (.invokestatic 91, 3) := by decide +kernel
theorem d_La_law_265 : decode code 265 = .ok (.istore 5, 2) := by decide +kernel
theorem d_La_law_267 : decode code 267 = .ok (.aload_n 2, 1) := by decide +kernel
theorem d_La_law_268 : decode code 268 = .ok (.aload_n 0, 1) := by decide +kernel
theorem d_La_law_269 : decode code 269 = .ok (.iload 4, 2) := by decide +kernel
theorem d_La_law_271 : decode code 271 = .ok (.iconst 1, 1) := by decide +kernel
theorem d_La_law_272 : decode code 272 = .ok (.iadd, 1) := by decide +kernel
theorem d_La_law_273 : decode code 273 = .ok (.iaload, 1) := by decide +kernel
theorem d_La_law_274 : decode code 274 = .ok (.aload_n 0, 1) := by decide +kernel
theorem d_La_law_275 : decode code 275 = .ok (.iload 4, 2) := by decide +kernel
theorem d_La_law_277 : decode code 277 = .ok (.iconst 2, 1) := by decide +kernel
theorem d_La_law_278 : decode code 278 = .ok (.iadd, 1) := by decide +kernel
theorem d_La_law_279 : decode code 279 = .ok (.iaload, 1) := by decide +kernel
theorem d_La_law_280 : decode code 280 = .ok (.invokevirtual 94, 3) := by decide +kernel
theorem d_La_law_283 : decode code 283 = .ok (.istore 6, 2) := by decide +kernel
theorem d_La_law_285 : decode code 285 = .ok (.aload_n 2, 1) := by decide +kernel
theorem d_La_law_286 : decode code 286 = .ok (.invokevirtual 84, 3) := by decide +kernel
theorem d_La_law_289 : decode code 289 = .ok (.iload 5, 2) := by decide +kernel
theorem d_La_law_291 : decode code 291 = .ok (.if_icmp .eq 5, 3) := by decide +kernel
theorem d_La_law_294 : decode code 294 = .ok (.iconst 0, 1) := by decide +kernel
theorem d_La_law_295 : decode code 295 = .ok (.ireturn, 1) := by decide +kernel
theorem d_La_law_296 : decode code 296 = .ok (.iload 5, 2) := by decide +kernel
theorem d_La_law_298 : decode code 298 = .ok (.ifCond .ne 15, 3) := by decide +kernel
theorem d_La_law_301 : decode code 301 = .ok (.aload_n 3, 1) := by decide +kernel
theorem d_La_law_302 : decode code 302 = .ok (.iconst 0, 1) := by decide +kernel
theorem d_La_law_303 : decode code 303 = .ok (.laload, 1) := by decide +kernel
theorem d_La_law_304 : decode code 304 = .ok (.iload 6, 2) := by decide +kernel
theorem d_La_law_306 : decode code 306 = .ok (.i2l, 1) := by decide +kernel
theorem d_La_law_307 : decode code 307 = .ok (.lcmp, 1) := by decide +kernel
theorem d_La_law_308 : decode code 308 = .ok (.ifCond .eq 5, 3) := by decide +kernel
theorem d_La_law_311 : decode code 311 = .ok (.iconst 0, 1) := by decide +kernel
theorem d_La_law_312 : decode code 312 = .ok (.ireturn, 1) := by decide +kernel
theorem d_La_law_313 : decode code 313 = .ok (.goto 902, 3) := by decide +kernel
theorem d_La_law_316 : decode code 316 = .ok (.aload_n 1, 1) := by decide +kernel
theorem d_La_law_317 : decode code 317 = .ok (.aload_n 0, 1) := by decide +kernel
theorem d_La_law_318 : decode code 318 = .ok (.iload 4, 2) := by decide +kernel
theorem d_La_law_320 : decode code 320 = .ok (.iconst 1, 1) := by decide +kernel
theorem d_La_law_321 : decode code 321 = .ok (.iadd, 1) := by decide +kernel
theorem d_La_law_322 : decode code 322 = .ok (.iaload, 1) := by decide +kernel
theorem d_La_law_323 : decode code 323 = .ok (.aload_n 3, 1) := by decide +kernel
theorem d_La_law_324 : decode code 324 = .ok (.invokestatic 95, 3) := by decide +kernel
theorem d_La_law_327 : decode code 327 = .ok (.istore 5, 2) := by decide +kernel
theorem d_La_law_329 : decode code 329 = .ok (.aload_n 2, 1) := by decide +kernel
theorem d_La_law_330 : decode code 330 = .ok (.aload_n 0, 1) := by decide +kernel
theorem d_La_law_331 : decode code 331 = .ok (.iload 4, 2) := by decide +kernel
theorem d_La_law_333 : decode code 333 = .ok (.iconst 1, 1) := by decide +kernel
theorem d_La_law_334 : decode code 334 = .ok (.iadd, 1) := by decide +kernel
theorem d_La_law_335 : decode code 335 = .ok (.iaload, 1) := by decide +kernel
theorem d_La_law_336 : decode code 336 = .ok (.invokevirtual 97, 3) := by decide +kernel
theorem d_La_law_339 : decode code 339 = .ok (.istore 6, 2) := by decide +kernel
theorem d_La_law_341 : decode code 341 = .ok (.aload_n 2, 1) := by decide +kernel
theorem d_La_law_342 : decode code 342 = .ok (.invokevirtual 84, 3) := by decide +kernel
theorem d_La_law_345 : decode code 345 = .ok (.iload 5, 2) := by decide +kernel
theorem d_La_law_347 : decode code 347 = .ok (.if_icmp .eq 5, 3) := by decide +kernel
theorem d_La_law_350 : decode code 350 = .ok (.iconst 0, 1) := by decide +kernel
theorem d_La_law_351 : decode code 351 = .ok (.ireturn, 1) := by decide +kernel
theorem d_La_law_352 : decode code 352 = .ok (.iload 5, 2) := by decide +kernel
theorem d_La_law_354 : decode code 354 = .ok (.ifCond .ne 15, 3) := by decide +kernel
theorem d_La_law_357 : decode code 357 = .ok (.aload_n 3, 1) := by decide +kernel
theorem d_La_law_358 : decode code 358 = .ok (.iconst 0, 1) := by decide +kernel
theorem d_La_law_359 : decode code 359 = .ok (.laload, 1) := by decide +kernel
theorem d_La_law_360 : decode code 360 = .ok (.iload 6, 2) := by decide +kernel
theorem d_La_law_362 : decode code 362 = .ok (.i2l, 1) := by decide +kernel
theorem d_La_law_363 : decode code 363 = .ok (.lcmp, 1) := by decide +kernel
theorem d_La_law_364 : decode code 364 = .ok (.ifCond .eq 5, 3) := by decide +kernel
theorem d_La_law_367 : decode code 367 = .ok (.iconst 0, 1) := by decide +kernel
theorem d_La_law_368 : decode code 368 = .ok (.ireturn, 1) := by decide +kernel
theorem d_La_law_369 : decode code 369 = .ok (.goto 846, 3) := by decide +kernel
theorem d_La_law_372 : decode code 372 = .ok (.aload_n 1, 1) := by decide +kernel
theorem d_La_law_373 : decode code 373 = .ok (.aload_n 0, 1) := by decide +kernel
theorem d_La_law_374 : decode code 374 = .ok (.iload 4, 2) := by decide +kernel
theorem d_La_law_376 : decode code 376 = .ok (.iconst 1, 1) := by decide +kernel
theorem d_La_law_377 : decode code 377 = .ok (.iadd, 1) := by decide +kernel
theorem d_La_law_378 : decode code 378 = .ok (.iaload, 1) := by decide +kernel
theorem d_La_law_379 : decode code 379 = .ok (.aload_n 0, 1) := by decide +kernel
theorem d_La_law_380 : decode code 380 = .ok (.iload 4, 2) := by decide +kernel
theorem d_La_law_382 : decode code 382 = .ok (.iconst 2, 1) := by decide +kernel
theorem d_La_law_383 : decode code 383 = .ok (.iadd, 1) := by decide +kernel
theorem d_La_law_384 : decode code 384 = .ok (.iaload, 1) := by decide +kernel
theorem d_La_law_385 : decode code 385 = .ok (.aload_n 3, 1) := by decide +kernel
theorem d_La_law_386 : decode code 386 = .ok (.invokestatic 98, 3) := by decide +kernel
theorem d_La_law_389 : decode code 389 = .ok (.istore 5, 2) := by decide +kernel
theorem d_La_law_391 : decode code 391 = .ok (.aload_n 2, 1) := by decide +kernel
theorem d_La_law_392 : decode code 392 = .ok (.aload_n 0, 1) := by decide +kernel
theorem d_La_law_393 : decode code 393 = .ok (.iload 4, 2) := by decide +kernel
theorem d_La_law_395 : decode code 395 = .ok (.iconst 1, 1) := by decide +kernel
theorem d_La_law_396 : decode code 396 = .ok (.iadd, 1) := by decide +kernel
theorem d_La_law_397 : decode code 397 = .ok (.iaload, 1) := by decide +kernel
theorem d_La_law_398 : decode code 398 = .ok (.aload_n 0, 1) := by decide +kernel
theorem d_La_law_399 : decode code 399 = .ok (.iload 4, 2) := by decide +kernel
theorem d_La_law_401 : decode code 401 = .ok (.iconst 2, 1) := by decide +kernel
theorem d_La_law_402 : decode code 402 = .ok (.iadd, 1) := by decide +kernel
theorem d_La_law_403 : decode code 403 = .ok (.iaload, 1) := by decide +kernel
theorem d_La_law_404 : decode code 404 = .ok (.invokevirtual 100, 3) := by decide +kernel
theorem d_La_law_407 : decode code 407 = .ok (.istore 6, 2) := by decide +kernel
theorem d_La_law_409 : decode code 409 = .ok (.aload_n 2, 1) := by decide +kernel
theorem d_La_law_410 : decode code 410 = .ok (.invokevirtual 84, 3) := by decide +kernel
theorem d_La_law_413 : decode code 413 = .ok (.iload 5, 2) := by decide +kernel
theorem d_La_law_415 : decode code 415 = .ok (.if_icmp .eq 5, 3) := by decide +kernel
theorem d_La_law_418 : decode code 418 = .ok (.iconst 0, 1) := by decide +kernel
theorem d_La_law_419 : decode code 419 = .ok (.ireturn, 1) := by decide +kernel
theorem d_La_law_420 : decode code 420 = .ok (.iload 5, 2) := by decide +kernel
theorem d_La_law_422 : decode code 422 = .ok (.ifCond .ne 15, 3) := by decide +kernel
theorem d_La_law_425 : decode code 425 = .ok (.aload_n 3, 1) := by decide +kernel
theorem d_La_law_426 : decode code 426 = .ok (.iconst 0, 1) := by decide +kernel
theorem d_La_law_427 : decode code 427 = .ok (.laload, 1) := by decide +kernel
theorem d_La_law_428 : decode code 428 = .ok (.iload 6, 2) := by decide +kernel
theorem d_La_law_430 : decode code 430 = .ok (.i2l, 1) := by decide +kernel
theorem d_La_law_431 : decode code 431 = .ok (.lcmp, 1) := by decide +kernel
theorem d_La_law_432 : decode code 432 = .ok (.ifCond .eq 5, 3) := by decide +kernel
theorem d_La_law_435 : decode code 435 = .ok (.iconst 0, 1) := by decide +kernel
theorem d_La_law_436 : decode code 436 = .ok (.ireturn, 1) := by decide +kernel
theorem d_La_law_437 : decode code 437 = .ok (.goto 778, 3) := by decide +kernel
theorem d_La_law_440 : decode code 440 = .ok (.aload_n 1, 1) := by decide +kernel
theorem d_La_law_441 : decode code 441 = .ok (.aload_n 0, 1) := by decide +kernel
theorem d_La_law_442 : decode code 442 = .ok (.iload 4, 2) := by decide +kernel
theorem d_La_law_444 : decode code 444 = .ok (.iconst 1, 1) := by decide +kernel
theorem d_La_law_445 : decode code 445 = .ok (.iadd, 1) := by decide +kernel
theorem d_La_law_446 : decode code 446 = .ok (.iaload, 1) := by decide +kernel
theorem d_La_law_447 : decode code 447 = .ok (.aload_n 0, 1) := by decide +kernel
theorem d_La_law_448 : decode code 448 = .ok (.iload 4, 2) := by decide +kernel
theorem d_La_law_450 : decode code 450 = .ok (.iconst 2, 1) := by decide +kernel
theorem d_La_law_451 : decode code 451 = .ok (.iadd, 1) := by decide +kernel
theorem d_La_law_452 : decode code 452 = .ok (.iaload, 1) := by decide +kernel
theorem d_La_law_453 : decode code 453 = .ok (.aload_n 0, 1) := by decide +kernel
theorem d_La_law_454 : decode code 454 = .ok (.iload 4, 2) := by decide +kernel
theorem d_La_law_456 : decode code 456 = .ok (.iconst 3, 1) := by decide +kernel
theorem d_La_law_457 : decode code 457 = .ok (.iadd, 1) := by decide +kernel
theorem d_La_law_458 : decode code 458 = .ok (.iaload, 1) := by decide +kernel
theorem d_La_law_459 : decode code 459 = .ok (.invokestatic 101, 3) := by decide +kernel
theorem d_La_law_462 : decode code 462 = .ok (.istore 5, 2) := by decide +kernel
theorem d_La_law_464 : decode code 464 = .ok (.aload_n 2, 1) := by decide +kernel
theorem d_La_law_465 : decode code 465 = .ok (.aload_n 0, 1) := by decide +kernel
theorem d_La_law_466 : decode code 466 = .ok (.iload 4, 2) := by decide +kernel
theorem d_La_law_468 : decode code 468 = .ok (.iconst 1, 1) := by decide +kernel
theorem d_La_law_469 : decode code 469 = .ok (.iadd, 1) := by decide +kernel
theorem d_La_law_470 : decode code 470 = .ok (.iaload, 1) := by decide +kernel
theorem d_La_law_471 : decode code 471 = .ok (.aload_n 0, 1) := by decide +kernel
theorem d_La_law_472 : decode code 472 = .ok (.iload 4, 2) := by decide +kernel
theorem d_La_law_474 : decode code 474 = .ok (.iconst 2, 1) := by decide +kernel
theorem d_La_law_475 : decode code 475 = .ok (.iadd, 1) := by decide +kernel
theorem d_La_law_476 : decode code 476 = .ok (.iaload, 1) := by decide +kernel
theorem d_La_law_477 : decode code 477 = .ok (.aload_n 0, 1) := by decide +kernel
theorem d_La_law_478 : decode code 478 = .ok (.iload 4, 2) := by decide +kernel
theorem d_La_law_480 : decode code 480 = .ok (.iconst 3, 1) := by decide +kernel
theorem d_La_law_481 : decode code 481 = .ok (.iadd, 1) := by decide +kernel
theorem d_La_law_482 : decode code 482 = .ok (.iaload, 1) := by decide +kernel
theorem d_La_law_483 : decode code 483 = .ok (.invokevirtual 104, 3) := by decide +kernel
theorem d_La_law_486 : decode code 486 = .ok (.aload_n 2, 1) := by decide +kernel
theorem d_La_law_487 : decode code 487 = .ok (.invokevirtual 84, 3) := by decide +kernel
theorem d_La_law_490 : decode code 490 = .ok (.iload 5, 2) := by decide +kernel
theorem d_La_law_492 : decode code 492 = .ok (.if_icmp .eq 5, 3) := by decide +kernel
theorem d_La_law_495 : decode code 495 = .ok (.iconst 0, 1) := by decide +kernel
theorem d_La_law_496 : decode code 496 = .ok (.ireturn, 1) := by decide +kernel
theorem d_La_law_497 : decode code 497 = .ok (.goto 718, 3) := by decide +kernel
theorem d_La_law_500 : decode code 500 = .ok (.aload_n 1, 1) := by decide +kernel
theorem d_La_law_501 : decode code 501 = .ok (.aload_n 0, 1) := by decide +kernel
theorem d_La_law_502 : decode code 502 = .ok (.iload 4, 2) := by decide +kernel
theorem d_La_law_504 : decode code 504 = .ok (.iconst 1, 1) := by decide +kernel
theorem d_La_law_505 : decode code 505 = .ok (.iadd, 1) := by decide +kernel
theorem d_La_law_506 : decode code 506 = .ok (.iaload, 1) := by decide +kernel
theorem d_La_law_507 : decode code 507 = .ok (.aload_n 0, 1) := by decide +kernel
theorem d_La_law_508 : decode code 508 = .ok (.iload 4, 2) := by decide +kernel
theorem d_La_law_510 : decode code 510 = .ok (.iconst 2, 1) := by decide +kernel
theorem d_La_law_511 : decode code 511 = .ok (.iadd, 1) := by decide +kernel
theorem d_La_law_512 : decode code 512 = .ok (.iaload, 1) := by decide +kernel
theorem d_La_law_513 : decode code 513 = .ok (.aload_n 0, 1) := by decide +kernel
theorem d_La_law_514 : decode code 514 = .ok (.iload 4, 2) := by decide +kernel
theorem d_La_law_516 : decode code 516 = .ok (.iconst 3, 1) := by decide +kernel
theorem d_La_law_517 : decode code 517 = .ok (.iadd, 1) := by decide +kernel
theorem d_La_law_518 : decode code 518 = .ok (.iaload, 1) := by decide +kernel
theorem d_La_law_519 : decode code 519 = .ok (.aload_n 3, 1) := by decide +kernel
theorem d_La_law_520 : decode code 520 = .ok (.invokestatic 105, 3) := by decide +kernel
theorem d_La_law_523 : decode code 523 = .ok (.istore 5, 2) := by decide +kernel
theorem d_La_law_525 : decode code 525 = .ok (.aload_n 2, 1) := by decide +kernel
theorem d_La_law_526 : decode code 526 = .ok (.aload_n 0, 1) := by decide +kernel
theorem d_La_law_527 : decode code 527 = .ok (.iload 4, 2) := by decide +kernel
theorem d_La_law_529 : decode code 529 = .ok (.iconst 1, 1) := by decide +kernel
theorem d_La_law_530 : decode code 530 = .ok (.iadd, 1) := by decide +kernel
theorem d_La_law_531 : decode code 531 = .ok (.iaload, 1) := by decide +kernel
theorem d_La_law_532 : decode code 532 = .ok (.aload_n 0, 1) := by decide +kernel
theorem d_La_law_533 : decode code 533 = .ok (.iload 4, 2) := by decide +kernel
theorem d_La_law_535 : decode code 535 = .ok (.iconst 2, 1) := by decide +kernel
theorem d_La_law_536 : decode code 536 = .ok (.iadd, 1) := by decide +kernel
theorem d_La_law_537 : decode code 537 = .ok (.iaload, 1) := by decide +kernel
theorem d_La_law_538 : decode code 538 = .ok (.aload_n 0, 1) := by decide +kernel
theorem d_La_law_539 : decode code 539 = .ok (.iload 4, 2) := by decide +kernel
theorem d_La_law_541 : decode code 541 = .ok (.iconst 3, 1) := by decide +kernel
theorem d_La_law_542 : decode code 542 = .ok (.iadd, 1) := by decide +kernel
theorem d_La_law_543 : decode code 543 = .ok (.iaload, 1) := by decide +kernel
theorem d_La_law_544 : decode code 544 = .ok (.invokevirtual 108, 3) := by decide +kernel
theorem d_La_law_547 : decode code 547 = .ok (.istore 6, 2) := by decide +kernel
theorem d_La_law_549 : decode code 549 = .ok (.aload_n 2, 1) := by decide +kernel
theorem d_La_law_550 : decode code 550 = .ok (.invokevirtual 84, 3) := by decide +kernel
theorem d_La_law_553 : decode code 553 = .ok (.iload 5, 2) := by decide +kernel
theorem d_La_law_555 : decode code 555 = .ok (.if_icmp .eq 5, 3) := by decide +kernel
theorem d_La_law_558 : decode code 558 = .ok (.iconst 0, 1) := by decide +kernel
theorem d_La_law_559 : decode code 559 = .ok (.ireturn, 1) := by decide +kernel
theorem d_La_law_560 : decode code 560 = .ok (.iload 5, 2) := by decide +kernel
theorem d_La_law_562 : decode code 562 = .ok (.ifCond .ne 15, 3) := by decide +kernel
theorem d_La_law_565 : decode code 565 = .ok (.aload_n 3, 1) := by decide +kernel
theorem d_La_law_566 : decode code 566 = .ok (.iconst 0, 1) := by decide +kernel
theorem d_La_law_567 : decode code 567 = .ok (.laload, 1) := by decide +kernel
theorem d_La_law_568 : decode code 568 = .ok (.iload 6, 2) := by decide +kernel
theorem d_La_law_570 : decode code 570 = .ok (.i2l, 1) := by decide +kernel
theorem d_La_law_571 : decode code 571 = .ok (.lcmp, 1) := by decide +kernel
theorem d_La_law_572 : decode code 572 = .ok (.ifCond .eq 5, 3) := by decide +kernel
theorem d_La_law_575 : decode code 575 = .ok (.iconst 0, 1) := by decide +kernel
theorem d_La_law_576 : decode code 576 = .ok (.ireturn, 1) := by decide +kernel
theorem d_La_law_577 : decode code 577 = .ok (.goto 638, 3) := by decide +kernel
theorem d_La_law_580 : decode code 580 = .ok (.aload_n 1, 1) := by decide +kernel
theorem d_La_law_581 : decode code 581 = .ok (.aload_n 0, 1) := by decide +kernel
theorem d_La_law_582 : decode code 582 = .ok (.iload 4, 2) := by decide +kernel
theorem d_La_law_584 : decode code 584 = .ok (.iconst 1, 1) := by decide +kernel
theorem d_La_law_585 : decode code 585 = .ok (.iadd, 1) := by decide +kernel
theorem d_La_law_586 : decode code 586 = .ok (.iaload, 1) := by decide +kernel
theorem d_La_law_587 : decode code 587 = .ok (.aload_n 0, 1) := by decide +kernel
theorem d_La_law_588 : decode code 588 = .ok (.iload 4, 2) := by decide +kernel
theorem d_La_law_590 : decode code 590 = .ok (.iconst 2, 1) := by decide +kernel
theorem d_La_law_591 : decode code 591 = .ok (.iadd, 1) := by decide +kernel
theorem d_La_law_592 : decode code 592 = .ok (.iaload, 1) := by decide +kernel
theorem d_La_law_593 : decode code 593 = .ok (.ifCond .eq 7, 3) := by decide +kernel
theorem d_La_law_596 : decode code 596 = .ok (.iconst 1, 1) := by decide +kernel
theorem d_La_law_597 : decode code 597 = .ok (.goto 4, 3) := by decide +kernel
theorem d_La_law_600 : decode code 600 = .ok (.iconst 0, 1) := by decide +kernel
theorem d_La_law_601 : decode code 601 = .ok (.aload_n 0, 1) := by decide +kernel
theorem d_La_law_602 : decode code 602 = .ok (.iload 4, 2) := by decide +kernel
theorem d_La_law_604 : decode code 604 = .ok (.iconst 3, 1) := by decide +kernel
theorem d_La_law_605 : decode code 605 = .ok (.iadd, 1) := by decide +kernel
theorem d_La_law_606 : decode code 606 = .ok (.iaload, 1) := by decide +kernel
theorem d_La_law_607 : decode code 607 = .ok (.ifCond .eq 7, 3) := by decide +kernel
theorem d_La_law_610 : decode code 610 = .ok (.iconst 1, 1) := by decide +kernel
theorem d_La_law_611 : decode code 611 = .ok (.goto 4, 3) := by decide +kernel
theorem d_La_law_614 : decode code 614 = .ok (.iconst 0, 1) := by decide +kernel
theorem d_La_law_615 : decode code 615 = .ok (.invokestatic 109, 3) := by decide +kernel
theorem d_La_law_618 : decode code 618 = .ok (.istore 5, 2) := by decide +kernel
theorem d_La_law_620 : decode code 620 = .ok (.aload_n 2, 1) := by decide +kernel
theorem d_La_law_621 : decode code 621 = .ok (.aload_n 0, 1) := by decide +kernel
theorem d_La_law_622 : decode code 622 = .ok (.iload 4, 2) := by decide +kernel
theorem d_La_law_624 : decode code 624 = .ok (.iconst 1, 1) := by decide +kernel
theorem d_La_law_625 : decode code 625 = .ok (.iadd, 1) := by decide +kernel
theorem d_La_law_626 : decode code 626 = .ok (.iaload, 1) := by decide +kernel
theorem d_La_law_627 : decode code 627 = .ok (.aload_n 0, 1) := by decide +kernel
theorem d_La_law_628 : decode code 628 = .ok (.iload 4, 2) := by decide +kernel
theorem d_La_law_630 : decode code 630 = .ok (.iconst 2, 1) := by decide +kernel
theorem d_La_law_631 : decode code 631 = .ok (.iadd, 1) := by decide +kernel
theorem d_La_law_632 : decode code 632 = .ok (.iaload, 1) := by decide +kernel
theorem d_La_law_633 : decode code 633 = .ok (.ifCond .eq 7, 3) := by decide +kernel
theorem d_La_law_636 : decode code 636 = .ok (.iconst 1, 1) := by decide +kernel
theorem d_La_law_637 : decode code 637 = .ok (.goto 4, 3) := by decide +kernel
theorem d_La_law_640 : decode code 640 = .ok (.iconst 0, 1) := by decide +kernel
theorem d_La_law_641 : decode code 641 = .ok (.aload_n 0, 1) := by decide +kernel
theorem d_La_law_642 : decode code 642 = .ok (.iload 4, 2) := by decide +kernel
theorem d_La_law_644 : decode code 644 = .ok (.iconst 3, 1) := by decide +kernel
theorem d_La_law_645 : decode code 645 = .ok (.iadd, 1) := by decide +kernel
theorem d_La_law_646 : decode code 646 = .ok (.iaload, 1) := by decide +kernel
theorem d_La_law_647 : decode code 647 = .ok (.ifCond .eq 7, 3) := by decide +kernel
theorem d_La_law_650 : decode code 650 = .ok (.iconst 1, 1) := by decide +kernel
theorem d_La_law_651 : decode code 651 = .ok (.goto 4, 3) := by decide +kernel
theorem d_La_law_654 : decode code 654 = .ok (.iconst 0, 1) := by decide +kernel
theorem d_La_law_655 : decode code 655 = .ok (.invokevirtual 112, 3) := by decide +kernel
theorem d_La_law_658 : decode code 658 = .ok (.aload_n 2, 1) := by decide +kernel
theorem d_La_law_659 : decode code 659 = .ok (.invokevirtual 84, 3) := by decide +kernel
theorem d_La_law_662 : decode code 662 = .ok (.iload 5, 2) := by decide +kernel
theorem d_La_law_664 : decode code 664 = .ok (.if_icmp .eq 5, 3) := by decide +kernel
theorem d_La_law_667 : decode code 667 = .ok (.iconst 0, 1) := by decide +kernel
theorem d_La_law_668 : decode code 668 = .ok (.ireturn, 1) := by decide +kernel
theorem d_La_law_669 : decode code 669 = .ok (.goto 546, 3) := by decide +kernel
theorem d_La_law_672 : decode code 672 = .ok (.aload_n 1, 1) := by decide +kernel
theorem d_La_law_673 : decode code 673 = .ok (.aload_n 3, 1) := by decide +kernel
theorem d_La_law_674 : decode code 674 = .ok (.invokestatic 113, 3) := by decide +kernel
theorem d_La_law_677 : decode code 677 = .ok (.istore 5, 2) := by decide +kernel
theorem d_La_law_679 : decode code 679 = .ok (.aload_n 2, 1) := by decide +kernel
theorem d_La_law_680 : decode code 680 = .ok (.invokevirtual 116, 3) := by decide +kernel
theorem d_La_law_683 : decode code 683 = .ok (.istore 6, 2) := by decide +kernel
theorem d_La_law_685 : decode code 685 = .ok (.aload_n 2, 1) := by decide +kernel
theorem d_La_law_686 : decode code 686 = .ok (.invokevirtual 84, 3) := by decide +kernel
theorem d_La_law_689 : decode code 689 = .ok (.iload 5, 2) := by decide +kernel
theorem d_La_law_691 : decode code 691 = .ok (.if_icmp .eq 5, 3) := by decide +kernel
theorem d_La_law_694 : decode code 694 = .ok (.iconst 0, 1) := by decide +kernel
theorem d_La_law_695 : decode code 695 = .ok (.ireturn, 1) := by decide +kernel
theorem d_La_law_696 : decode code 696 = .ok (.iload 5, 2) := by decide +kernel
theorem d_La_law_698 : decode code 698 = .ok (.ifCond .ne 15, 3) := by decide +kernel
theorem d_La_law_701 : decode code 701 = .ok (.aload_n 3, 1) := by decide +kernel
theorem d_La_law_702 : decode code 702 = .ok (.iconst 0, 1) := by decide +kernel
theorem d_La_law_703 : decode code 703 = .ok (.laload, 1) := by decide +kernel
theorem d_La_law_704 : decode code 704 = .ok (.iload 6, 2) := by decide +kernel
theorem d_La_law_706 : decode code 706 = .ok (.i2l, 1) := by decide +kernel
theorem d_La_law_707 : decode code 707 = .ok (.lcmp, 1) := by decide +kernel
theorem d_La_law_708 : decode code 708 = .ok (.ifCond .eq 5, 3) := by decide +kernel
theorem d_La_law_711 : decode code 711 = .ok (.iconst 0, 1) := by decide +kernel
theorem d_La_law_712 : decode code 712 = .ok (.ireturn, 1) := by decide +kernel
theorem d_La_law_713 : decode code 713 = .ok (.goto 502, 3) := by decide +kernel
theorem d_La_law_716 : decode code 716 = .ok (.aload_n 1, 1) := by decide +kernel
theorem d_La_law_717 : decode code 717 = .ok (.aload_n 0, 1) := by decide +kernel
theorem d_La_law_718 : decode code 718 = .ok (.iload 4, 2) := by decide +kernel
theorem d_La_law_720 : decode code 720 = .ok (.iconst 1, 1) := by decide +kernel
theorem d_La_law_721 : decode code 721 = .ok (.iadd, 1) := by decide +kernel
theorem d_La_law_722 : decode code 722 = .ok (.iaload, 1) := by decide +kernel
theorem d_La_law_723 : decode code 723 = .ok (.aload_n 0, 1) := by decide +kernel
theorem d_La_law_724 : decode code 724 = .ok (.iload 4, 2) := by decide +kernel
theorem d_La_law_726 : decode code 726 = .ok (.iconst 2, 1) := by decide +kernel
theorem d_La_law_727 : decode code 727 = .ok (.iadd, 1) := by decide +kernel
theorem d_La_law_728 : decode code 728 = .ok (.iaload, 1) := by decide +kernel
theorem d_La_law_729 : decode code 729 = .ok (.aload_n 0, 1) := by decide +kernel
theorem d_La_law_730 : decode code 730 = .ok (.iload 4, 2) := by decide +kernel
theorem d_La_law_732 : decode code 732 = .ok (.iconst 3, 1) := by decide +kernel
theorem d_La_law_733 : decode code 733 = .ok (.iadd, 1) := by decide +kernel
theorem d_La_law_734 : decode code 734 = .ok (.iaload, 1) := by decide +kernel
theorem d_La_law_735 : decode code 735 = .ok (.invokestatic 117, 3) := by decide +kernel
theorem d_La_law_738 : decode code 738 = .ok (.istore 5, 2) := by decide +kernel
theorem d_La_law_740 : decode code 740 = .ok (.aload_n 2, 1) := by decide +kernel
theorem d_La_law_741 : decode code 741 = .ok (.aload_n 0, 1) := by decide +kernel
theorem d_La_law_742 : decode code 742 = .ok (.iload 4, 2) := by decide +kernel
theorem d_La_law_744 : decode code 744 = .ok (.iconst 1, 1) := by decide +kernel
theorem d_La_law_745 : decode code 745 = .ok (.iadd, 1) := by decide +kernel
theorem d_La_law_746 : decode code 746 = .ok (.iaload, 1) := by decide +kernel
theorem d_La_law_747 : decode code 747 = .ok (.aload_n 0, 1) := by decide +kernel
theorem d_La_law_748 : decode code 748 = .ok (.iload 4, 2) := by decide +kernel
theorem d_La_law_750 : decode code 750 = .ok (.iconst 2, 1) := by decide +kernel
theorem d_La_law_751 : decode code 751 = .ok (.iadd, 1) := by decide +kernel
theorem d_La_law_752 : decode code 752 = .ok (.iaload, 1) := by decide +kernel
theorem d_La_law_753 : decode code 753 = .ok (.aload_n 0, 1) := by decide +kernel
theorem d_La_law_754 : decode code 754 = .ok (.iload 4, 2) := by decide +kernel
theorem d_La_law_756 : decode code 756 = .ok (.iconst 3, 1) := by decide +kernel
theorem d_La_law_757 : decode code 757 = .ok (.iadd, 1) := by decide +kernel
theorem d_La_law_758 : decode code 758 = .ok (.iaload, 1) := by decide +kernel
theorem d_La_law_759 : decode code 759 = .ok (.invokevirtual 119, 3) := by decide +kernel
theorem d_La_law_762 : decode code 762 = .ok (.aload_n 2, 1) := by decide +kernel
theorem d_La_law_763 : decode code 763 = .ok (.invokevirtual 84, 3) := by decide +kernel
theorem d_La_law_766 : decode code 766 = .ok (.iload 5, 2) := by decide +kernel
theorem d_La_law_768 : decode code 768 = .ok (.if_icmp .eq 5, 3) := by decide +kernel
theorem d_La_law_771 : decode code 771 = .ok (.iconst 0, 1) := by decide +kernel
theorem d_La_law_772 : decode code 772 = .ok (.ireturn, 1) := by decide +kernel
theorem d_La_law_773 : decode code 773 = .ok (.goto 442, 3) := by decide +kernel
theorem d_La_law_776 : decode code 776 = .ok (.aload_n 1, 1) := by decide +kernel
theorem d_La_law_777 : decode code 777 = .ok (.aload_n 0, 1) := by decide +kernel
theorem d_La_law_778 : decode code 778 = .ok (.iload 4, 2) := by decide +kernel
theorem d_La_law_780 : decode code 780 = .ok (.iconst 1, 1) := by decide +kernel
theorem d_La_law_781 : decode code 781 = .ok (.iadd, 1) := by decide +kernel
theorem d_La_law_782 : decode code 782 = .ok (.iaload, 1) := by decide +kernel
theorem d_La_law_783 : decode code 783 = .ok (.aload_n 0, 1) := by decide +kernel
theorem d_La_law_784 : decode code 784 = .ok (.iload 4, 2) := by decide +kernel
theorem d_La_law_786 : decode code 786 = .ok (.iconst 2, 1) := by decide +kernel
theorem d_La_law_787 : decode code 787 = .ok (.iadd, 1) := by decide +kernel
theorem d_La_law_788 : decode code 788 = .ok (.iaload, 1) := by decide +kernel
theorem d_La_law_789 : decode code 789 = .ok (.aload_n 0, 1) := by decide +kernel
theorem d_La_law_790 : decode code 790 = .ok (.iload 4, 2) := by decide +kernel
theorem d_La_law_792 : decode code 792 = .ok (.iconst 3, 1) := by decide +kernel
theorem d_La_law_793 : decode code 793 = .ok (.iadd, 1) := by decide +kernel
theorem d_La_law_794 : decode code 794 = .ok (.iaload, 1) := by decide +kernel
theorem d_La_law_795 : decode code 795 = .ok (.aload_n 3, 1) := by decide +kernel
theorem d_La_law_796 : decode code 796 = .ok (.invokestatic 120, 3) := by decide +kernel
theorem d_La_law_799 : decode code 799 = .ok (.istore 5, 2) := by decide +kernel
theorem d_La_law_801 : decode code 801 = .ok (.aload_n 2, 1) := by decide +kernel
theorem d_La_law_802 : decode code 802 = .ok (.aload_n 0, 1) := by decide +kernel
theorem d_La_law_803 : decode code 803 = .ok (.iload 4, 2) := by decide +kernel
theorem d_La_law_805 : decode code 805 = .ok (.iconst 1, 1) := by decide +kernel
theorem d_La_law_806 : decode code 806 = .ok (.iadd, 1) := by decide +kernel
theorem d_La_law_807 : decode code 807 = .ok (.iaload, 1) := by decide +kernel
theorem d_La_law_808 : decode code 808 = .ok (.aload_n 0, 1) := by decide +kernel
theorem d_La_law_809 : decode code 809 = .ok (.iload 4, 2) := by decide +kernel
theorem d_La_law_811 : decode code 811 = .ok (.iconst 2, 1) := by decide +kernel
theorem d_La_law_812 : decode code 812 = .ok (.iadd, 1) := by decide +kernel
theorem d_La_law_813 : decode code 813 = .ok (.iaload, 1) := by decide +kernel
theorem d_La_law_814 : decode code 814 = .ok (.aload_n 0, 1) := by decide +kernel
theorem d_La_law_815 : decode code 815 = .ok (.iload 4, 2) := by decide +kernel
theorem d_La_law_817 : decode code 817 = .ok (.iconst 3, 1) := by decide +kernel
theorem d_La_law_818 : decode code 818 = .ok (.iadd, 1) := by decide +kernel
theorem d_La_law_819 : decode code 819 = .ok (.iaload, 1) := by decide +kernel
theorem d_La_law_820 : decode code 820 = .ok (.invokevirtual 122, 3) := by decide +kernel
theorem d_La_law_823 : decode code 823 = .ok (.istore 6, 2) := by decide +kernel
theorem d_La_law_825 : decode code 825 = .ok (.aload_n 2, 1) := by decide +kernel
theorem d_La_law_826 : decode code 826 = .ok (.invokevirtual 84, 3) := by decide +kernel
theorem d_La_law_829 : decode code 829 = .ok (.iload 5, 2) := by decide +kernel
theorem d_La_law_831 : decode code 831 = .ok (.if_icmp .eq 5, 3) := by decide +kernel
theorem d_La_law_834 : decode code 834 = .ok (.iconst 0, 1) := by decide +kernel
theorem d_La_law_835 : decode code 835 = .ok (.ireturn, 1) := by decide +kernel
theorem d_La_law_836 : decode code 836 = .ok (.iload 5, 2) := by decide +kernel
theorem d_La_law_838 : decode code 838 = .ok (.ifCond .ne 15, 3) := by decide +kernel
theorem d_La_law_841 : decode code 841 = .ok (.aload_n 3, 1) := by decide +kernel
theorem d_La_law_842 : decode code 842 = .ok (.iconst 0, 1) := by decide +kernel
theorem d_La_law_843 : decode code 843 = .ok (.laload, 1) := by decide +kernel
theorem d_La_law_844 : decode code 844 = .ok (.iload 6, 2) := by decide +kernel
theorem d_La_law_846 : decode code 846 = .ok (.i2l, 1) := by decide +kernel
theorem d_La_law_847 : decode code 847 = .ok (.lcmp, 1) := by decide +kernel
theorem d_La_law_848 : decode code 848 = .ok (.ifCond .eq 5, 3) := by decide +kernel
theorem d_La_law_851 : decode code 851 = .ok (.iconst 0, 1) := by decide +kernel
theorem d_La_law_852 : decode code 852 = .ok (.ireturn, 1) := by decide +kernel
theorem d_La_law_853 : decode code 853 = .ok (.goto 362, 3) := by decide +kernel
theorem d_La_law_856 : decode code 856 = .ok (.aload_n 1, 1) := by decide +kernel
theorem d_La_law_857 : decode code 857 = .ok (.aload_n 0, 1) := by decide +kernel
theorem d_La_law_858 : decode code 858 = .ok (.iload 4, 2) := by decide +kernel
theorem d_La_law_860 : decode code 860 = .ok (.iconst 1, 1) := by decide +kernel
theorem d_La_law_861 : decode code 861 = .ok (.iadd, 1) := by decide +kernel
theorem d_La_law_862 : decode code 862 = .ok (.iaload, 1) := by decide +kernel
theorem d_La_law_863 : decode code 863 = .ok (.aload_n 0, 1) := by decide +kernel
theorem d_La_law_864 : decode code 864 = .ok (.iload 4, 2) := by decide +kernel
theorem d_La_law_866 : decode code 866 = .ok (.iconst 2, 1) := by decide +kernel
theorem d_La_law_867 : decode code 867 = .ok (.iadd, 1) := by decide +kernel
theorem d_La_law_868 : decode code 868 = .ok (.iaload, 1) := by decide +kernel
theorem d_La_law_869 : decode code 869 = .ok (.aload_n 0, 1) := by decide +kernel
theorem d_La_law_870 : decode code 870 = .ok (.iload 4, 2) := by decide +kernel
theorem d_La_law_872 : decode code 872 = .ok (.iconst 3, 1) := by decide +kernel
theorem d_La_law_873 : decode code 873 = .ok (.iadd, 1) := by decide +kernel
theorem d_La_law_874 : decode code 874 = .ok (.iaload, 1) := by decide +kernel
theorem d_La_law_875 : decode code 875 = .ok (.aload_n 0, 1) := by decide +kernel
theorem d_La_law_876 : decode code 876 = .ok (.iload 4, 2) := by decide +kernel
theorem d_La_law_878 : decode code 878 = .ok (.iconst 4, 1) := by decide +kernel
theorem d_La_law_879 : decode code 879 = .ok (.iadd, 1) := by decide +kernel
theorem d_La_law_880 : decode code 880 = .ok (.iaload, 1) := by decide +kernel
theorem d_La_law_881 : decode code 881 = .ok (.invokestatic 123, 3) := by decide +kernel
theorem d_La_law_884 : decode code 884 = .ok (.istore 5, 2) := by decide +kernel
theorem d_La_law_886 : decode code 886 = .ok (.aload_n 2, 1) := by decide +kernel
theorem d_La_law_887 : decode code 887 = .ok (.aload_n 0, 1) := by decide +kernel
theorem d_La_law_888 : decode code 888 = .ok (.iload 4, 2) := by decide +kernel
theorem d_La_law_890 : decode code 890 = .ok (.iconst 1, 1) := by decide +kernel
theorem d_La_law_891 : decode code 891 = .ok (.iadd, 1) := by decide +kernel
theorem d_La_law_892 : decode code 892 = .ok (.iaload, 1) := by decide +kernel
theorem d_La_law_893 : decode code 893 = .ok (.aload_n 0, 1) := by decide +kernel
theorem d_La_law_894 : decode code 894 = .ok (.iload 4, 2) := by decide +kernel
theorem d_La_law_896 : decode code 896 = .ok (.iconst 2, 1) := by decide +kernel
theorem d_La_law_897 : decode code 897 = .ok (.iadd, 1) := by decide +kernel
theorem d_La_law_898 : decode code 898 = .ok (.iaload, 1) := by decide +kernel
theorem d_La_law_899 : decode code 899 = .ok (.aload_n 0, 1) := by decide +kernel
theorem d_La_law_900 : decode code 900 = .ok (.iload 4, 2) := by decide +kernel
theorem d_La_law_902 : decode code 902 = .ok (.iconst 3, 1) := by decide +kernel
theorem d_La_law_903 : decode code 903 = .ok (.iadd, 1) := by decide +kernel
theorem d_La_law_904 : decode code 904 = .ok (.iaload, 1) := by decide +kernel
theorem d_La_law_905 : decode code 905 = .ok (.aload_n 0, 1) := by decide +kernel
theorem d_La_law_906 : decode code 906 = .ok (.iload 4, 2) := by decide +kernel
theorem d_La_law_908 : decode code 908 = .ok (.iconst 4, 1) := by decide +kernel
theorem d_La_law_909 : decode code 909 = .ok (.iadd, 1) := by decide +kernel
theorem d_La_law_910 : decode code 910 = .ok (.iaload, 1) := by decide +kernel
theorem d_La_law_911 : decode code 911 = .ok (.invokevirtual 126, 3) := by decide +kernel
theorem d_La_law_914 : decode code 914 = .ok (.aload_n 2, 1) := by decide +kernel
theorem d_La_law_915 : decode code 915 = .ok (.invokevirtual 84, 3) := by decide +kernel
theorem d_La_law_918 : decode code 918 = .ok (.iload 5, 2) := by decide +kernel
theorem d_La_law_920 : decode code 920 = .ok (.if_icmp .eq 5, 3) := by decide +kernel
theorem d_La_law_923 : decode code 923 = .ok (.iconst 0, 1) := by decide +kernel
theorem d_La_law_924 : decode code 924 = .ok (.ireturn, 1) := by decide +kernel
theorem d_La_law_925 : decode code 925 = .ok (.goto 290, 3) := by decide +kernel
theorem d_La_law_928 : decode code 928 = .ok (.aload_n 1, 1) := by decide +kernel
theorem d_La_law_929 : decode code 929 = .ok (.aload_n 0, 1) := by decide +kernel
theorem d_La_law_930 : decode code 930 = .ok (.iload 4, 2) := by decide +kernel
theorem d_La_law_932 : decode code 932 = .ok (.iconst 1, 1) := by decide +kernel
theorem d_La_law_933 : decode code 933 = .ok (.iadd, 1) := by decide +kernel
theorem d_La_law_934 : decode code 934 = .ok (.iaload, 1) := by decide +kernel
theorem d_La_law_935 : decode code 935 = .ok (.aload_n 0, 1) := by decide +kernel
theorem d_La_law_936 : decode code 936 = .ok (.iload 4, 2) := by decide +kernel
theorem d_La_law_938 : decode code 938 = .ok (.iconst 2, 1) := by decide +kernel
theorem d_La_law_939 : decode code 939 = .ok (.iadd, 1) := by decide +kernel
theorem d_La_law_940 : decode code 940 = .ok (.iaload, 1) := by decide +kernel
theorem d_La_law_941 : decode code 941 = .ok (.aload_n 3, 1) := by decide +kernel
theorem d_La_law_942 : decode code 942 = .ok (.invokestatic 127, 3) := by decide +kernel
theorem d_La_law_945 : decode code 945 = .ok (.istore 5, 2) := by decide +kernel
theorem d_La_law_947 : decode code 947 = .ok (.aload_n 2, 1) := by decide +kernel
theorem d_La_law_948 : decode code 948 = .ok (.aload_n 0, 1) := by decide +kernel
theorem d_La_law_949 : decode code 949 = .ok (.iload 4, 2) := by decide +kernel
theorem d_La_law_951 : decode code 951 = .ok (.iconst 1, 1) := by decide +kernel
theorem d_La_law_952 : decode code 952 = .ok (.iadd, 1) := by decide +kernel
theorem d_La_law_953 : decode code 953 = .ok (.iaload, 1) := by decide +kernel
theorem d_La_law_954 : decode code 954 = .ok (.aload_n 0, 1) := by decide +kernel
theorem d_La_law_955 : decode code 955 = .ok (.iload 4, 2) := by decide +kernel
theorem d_La_law_957 : decode code 957 = .ok (.iconst 2, 1) := by decide +kernel
theorem d_La_law_958 : decode code 958 = .ok (.iadd, 1) := by decide +kernel
theorem d_La_law_959 : decode code 959 = .ok (.iaload, 1) := by decide +kernel
theorem d_La_law_960 : decode code 960 = .ok (.invokevirtual 129, 3) := by decide +kernel
theorem d_La_law_963 : decode code 963 = .ok (.istore 6, 2) := by decide +kernel
theorem d_La_law_965 : decode code 965 = .ok (.aload_n 2, 1) := by decide +kernel
theorem d_La_law_966 : decode code 966 = .ok (.invokevirtual 84, 3) := by decide +kernel
theorem d_La_law_969 : decode code 969 = .ok (.iload 5, 2) := by decide +kernel
theorem d_La_law_971 : decode code 971 = .ok (.if_icmp .eq 5, 3) := by decide +kernel
theorem d_La_law_974 : decode code 974 = .ok (.iconst 0, 1) := by decide +kernel
theorem d_La_law_975 : decode code 975 = .ok (.ireturn, 1) := by decide +kernel
theorem d_La_law_976 : decode code 976 = .ok (.iload 5, 2) := by decide +kernel
theorem d_La_law_978 : decode code 978 = .ok (.ifCond .ne 22, 3) := by decide +kernel
theorem d_La_law_981 : decode code 981 = .ok (.aload_n 3, 1) := by decide +kernel
theorem d_La_law_982 : decode code 982 = .ok (.iconst 0, 1) := by decide +kernel
theorem d_La_law_983 : decode code 983 = .ok (.laload, 1) := by decide +kernel
theorem d_La_law_984 : decode code 984 = .ok (.iload 6, 2) := by decide +kernel
theorem d_La_law_986 : decode code 986 = .ok (.ifCond .eq 7, 3) := by decide +kernel
theorem d_La_law_989 : decode code 989 = .ok (.lconst 1, 1) := by decide +kernel
theorem d_La_law_990 : decode code 990 = .ok (.goto 4, 3) := by decide +kernel
theorem d_La_law_993 : decode code 993 = .ok (.lconst 0, 1) := by decide +kernel
theorem d_La_law_994 : decode code 994 = .ok (.lcmp, 1) := by decide +kernel
theorem d_La_law_995 : decode code 995 = .ok (.ifCond .eq 5, 3) := by decide +kernel
theorem d_La_law_998 : decode code 998 = .ok (.iconst 0, 1) := by decide +kernel
theorem d_La_law_999 : decode code 999 = .ok (.ireturn, 1) := by decide +kernel
theorem d_La_law_1000 : decode code 1000 = .ok (.goto 215, 3) := by decide +kernel
theorem d_La_law_1003 : decode code 1003 = .ok (.aload_n 1, 1) := by decide +kernel
theorem d_La_law_1004 : decode code 1004 = .ok (.aload_n 0, 1) := by decide +kernel
theorem d_La_law_1005 : decode code 1005 = .ok (.iload 4, 2) := by decide +kernel
theorem d_La_law_1007 : decode code 1007 = .ok (.iconst 1, 1) := by decide +kernel
theorem d_La_law_1008 : decode code 1008 = .ok (.iadd, 1) := by decide +kernel
theorem d_La_law_1009 : decode code 1009 = .ok (.iaload, 1) := by decide +kernel
theorem d_La_law_1010 : decode code 1010 = .ok (.aload_n 0, 1) := by decide +kernel
theorem d_La_law_1011 : decode code 1011 = .ok (.iload 4, 2) := by decide +kernel
theorem d_La_law_1013 : decode code 1013 = .ok (.iconst 2, 1) := by decide +kernel
theorem d_La_law_1014 : decode code 1014 = .ok (.iadd, 1) := by decide +kernel
theorem d_La_law_1015 : decode code 1015 = .ok (.iaload, 1) := by decide +kernel
theorem d_La_law_1016 : decode code 1016 = .ok (.aload_n 3, 1) := by decide +kernel
theorem d_La_law_1017 : decode code 1017 = .ok (.invokestatic 130, 3) := by decide +kernel
theorem d_La_law_1020 : decode code 1020 = .ok (.istore 5, 2) := by decide +kernel
theorem d_La_law_1022 : decode code 1022 = .ok (.aload_n 2, 1) := by decide +kernel
theorem d_La_law_1023 : decode code 1023 = .ok (.aload_n 0, 1) := by decide +kernel
theorem d_La_law_1024 : decode code 1024 = .ok (.iload 4, 2) := by decide +kernel
theorem d_La_law_1026 : decode code 1026 = .ok (.iconst 1, 1) := by decide +kernel
theorem d_La_law_1027 : decode code 1027 = .ok (.iadd, 1) := by decide +kernel
theorem d_La_law_1028 : decode code 1028 = .ok (.iaload, 1) := by decide +kernel
theorem d_La_law_1029 : decode code 1029 = .ok (.aload_n 0, 1) := by decide +kernel
theorem d_La_law_1030 : decode code 1030 = .ok (.iload 4, 2) := by decide +kernel
theorem d_La_law_1032 : decode code 1032 = .ok (.iconst 2, 1) := by decide +kernel
theorem d_La_law_1033 : decode code 1033 = .ok (.iadd, 1) := by decide +kernel
theorem d_La_law_1034 : decode code 1034 = .ok (.iaload, 1) := by decide +kernel
theorem d_La_law_1035 : decode code 1035 = .ok (.invokevirtual 132, 3) := by decide +kernel
theorem d_La_law_1038 : decode code 1038 = .ok (.istore 6, 2) := by decide +kernel
theorem d_La_law_1040 : decode code 1040 = .ok (.aload_n 2, 1) := by decide +kernel
theorem d_La_law_1041 : decode code 1041 = .ok (.invokevirtual 84, 3) := by decide +kernel
theorem d_La_law_1044 : decode code 1044 = .ok (.iload 5, 2) := by decide +kernel
theorem d_La_law_1046 : decode code 1046 = .ok (.if_icmp .eq 5, 3) := by decide +kernel
theorem d_La_law_1049 : decode code 1049 = .ok (.iconst 0, 1) := by decide +kernel
theorem d_La_law_1050 : decode code 1050 = .ok (.ireturn, 1) := by decide +kernel
theorem d_La_law_1051 : decode code 1051 = .ok (.iload 5, 2) := by decide +kernel
theorem d_La_law_1053 : decode code 1053 = .ok (.ifCond .ne 15, 3) := by decide +kernel
theorem d_La_law_1056 : decode code 1056 = .ok (.aload_n 3, 1) := by decide +kernel
theorem d_La_law_1057 : decode code 1057 = .ok (.iconst 0, 1) := by decide +kernel
theorem d_La_law_1058 : decode code 1058 = .ok (.laload, 1) := by decide +kernel
theorem d_La_law_1059 : decode code 1059 = .ok (.iload 6, 2) := by decide +kernel
theorem d_La_law_1061 : decode code 1061 = .ok (.i2l, 1) := by decide +kernel
theorem d_La_law_1062 : decode code 1062 = .ok (.lcmp, 1) := by decide +kernel
theorem d_La_law_1063 : decode code 1063 = .ok (.ifCond .eq 5, 3) := by decide +kernel
theorem d_La_law_1066 : decode code 1066 = .ok (.iconst 0, 1) := by decide +kernel
theorem d_La_law_1067 : decode code 1067 = .ok (.ireturn, 1) := by decide +kernel
theorem d_La_law_1068 : decode code 1068 = .ok (.goto 147, 3) := by decide +kernel
theorem d_La_law_1071 : decode code 1071 = .ok (.aload_n 1, 1) := by decide +kernel
theorem d_La_law_1072 : decode code 1072 = .ok (.invokevirtual 133, 3) := by decide +kernel
theorem d_La_law_1075 : decode code 1075 = .ok (.aload_n 2, 1) := by decide +kernel
theorem d_La_law_1076 : decode code 1076 = .ok (.invokevirtual 136, 3) := by decide +kernel
theorem d_La_law_1079 : decode code 1079 = .ok (.if_icmp .eq 136, 3) := by decide +kernel
theorem d_La_law_1082 : decode code 1082 = .ok (.iconst 0, 1) := by decide +kernel
theorem d_La_law_1083 : decode code 1083 = .ok (.ireturn, 1) := by decide +kernel
theorem d_La_law_1084 : decode code 1084 = .ok (.aload_n 1, 1) := by decide +kernel
theorem d_La_law_1085 : decode code 1085 = .ok (.aload_n 0, 1) := by decide +kernel
theorem d_La_law_1086 : decode code 1086 = .ok (.iload 4, 2) := by decide +kernel
theorem d_La_law_1088 : decode code 1088 = .ok (.iconst 1, 1) := by decide +kernel
theorem d_La_law_1089 : decode code 1089 = .ok (.iadd, 1) := by decide +kernel
theorem d_La_law_1090 : decode code 1090 = .ok (.iaload, 1) := by decide +kernel
theorem d_La_law_1091 : decode code 1091 = .ok (.aload_n 3, 1) := by decide +kernel
theorem d_La_law_1092 : decode code 1092 = .ok (.invokestatic 137, 3) := by decide +kernel
theorem d_La_law_1095 : decode code 1095 = .ok (.istore 5, 2) := by decide +kernel
theorem d_La_law_1097 : decode code 1097 = .ok (.aload_n 2, 1) := by decide +kernel
theorem d_La_law_1098 : decode code 1098 = .ok (.aload_n 0, 1) := by decide +kernel
theorem d_La_law_1099 : decode code 1099 = .ok (.iload 4, 2) := by decide +kernel
theorem d_La_law_1101 : decode code 1101 = .ok (.iconst 1, 1) := by decide +kernel
theorem d_La_law_1102 : decode code 1102 = .ok (.iadd, 1) := by decide +kernel
theorem d_La_law_1103 : decode code 1103 = .ok (.iaload, 1) := by decide +kernel
theorem d_La_law_1104 : decode code 1104 = .ok (.invokevirtual 139, 3) := by decide +kernel
theorem d_La_law_1107 : decode code 1107 = .ok (.istore 6, 2) := by decide +kernel
theorem d_La_law_1109 : decode code 1109 = .ok (.aload_n 2, 1) := by decide +kernel
theorem d_La_law_1110 : decode code 1110 = .ok (.invokevirtual 84, 3) := by decide +kernel
theorem d_La_law_1113 : decode code 1113 = .ok (.iload 5, 2) := by decide +kernel
theorem d_La_law_1115 : decode code 1115 = .ok (.if_icmp .eq 5, 3) := by decide +kernel
theorem d_La_law_1118 : decode code 1118 = .ok (.iconst 0, 1) := by decide +kernel
theorem d_La_law_1119 : decode code 1119 = .ok (.ireturn, 1) := by decide +kernel
theorem d_La_law_1120 : decode code 1120 = .ok (.iload 5, 2) := by decide +kernel
theorem d_La_law_1122 : decode code 1122 = .ok (.ifCond .ne 15, 3) := by decide +kernel
theorem d_La_law_1125 : decode code 1125 = .ok (.aload_n 3, 1) := by decide +kernel
theorem d_La_law_1126 : decode code 1126 = .ok (.iconst 0, 1) := by decide +kernel
theorem d_La_law_1127 : decode code 1127 = .ok (.laload, 1) := by decide +kernel
theorem d_La_law_1128 : decode code 1128 = .ok (.iload 6, 2) := by decide +kernel
theorem d_La_law_1130 : decode code 1130 = .ok (.i2l, 1) := by decide +kernel
theorem d_La_law_1131 : decode code 1131 = .ok (.lcmp, 1) := by decide +kernel
theorem d_La_law_1132 : decode code 1132 = .ok (.ifCond .eq 5, 3) := by decide +kernel
theorem d_La_law_1135 : decode code 1135 = .ok (.iconst 0, 1) := by decide +kernel
theorem d_La_law_1136 : decode code 1136 = .ok (.ireturn, 1) := by decide +kernel
theorem d_La_law_1137 : decode code 1137 = .ok (.goto 78, 3) := by decide +kernel
theorem d_La_law_1140 : decode code 1140 = .ok (.aload_n 1, 1) := by decide +kernel
theorem d_La_law_1141 : decode code 1141 = .ok (.aload_n 0, 1) := by decide +kernel
theorem d_La_law_1142 : decode code 1142 = .ok (.iload 4, 2) := by decide +kernel
theorem d_La_law_1144 : decode code 1144 = .ok (.iconst 1, 1) := by decide +kernel
theorem d_La_law_1145 : decode code 1145 = .ok (.iadd, 1) := by decide +kernel
theorem d_La_law_1146 : decode code 1146 = .ok (.iaload, 1) := by decide +kernel
theorem d_La_law_1147 : decode code 1147 = .ok (.aload_n 0, 1) := by decide +kernel
theorem d_La_law_1148 : decode code 1148 = .ok (.iload 4, 2) := by decide +kernel
theorem d_La_law_1150 : decode code 1150 = .ok (.iconst 2, 1) := by decide +kernel
theorem d_La_law_1151 : decode code 1151 = .ok (.iadd, 1) := by decide +kernel
theorem d_La_law_1152 : decode code 1152 = .ok (.iaload, 1) := by decide +kernel
theorem d_La_law_1153 : decode code 1153 = .ok (.aload_n 3, 1) := by decide +kernel
theorem d_La_law_1154 : decode code 1154 = .ok (.invokestatic 140, 3) := by decide +kernel
theorem d_La_law_1157 : decode code 1157 = .ok (.istore 5, 2) := by decide +kernel
theorem d_La_law_1159 : decode code 1159 = .ok (.aload_n 2, 1) := by decide +kernel
theorem d_La_law_1160 : decode code 1160 = .ok (.aload_n 0, 1) := by decide +kernel
theorem d_La_law_1161 : decode code 1161 = .ok (.iload 4, 2) := by decide +kernel
theorem d_La_law_1163 : decode code 1163 = .ok (.iconst 1, 1) := by decide +kernel
theorem d_La_law_1164 : decode code 1164 = .ok (.iadd, 1) := by decide +kernel
theorem d_La_law_1165 : decode code 1165 = .ok (.iaload, 1) := by decide +kernel
theorem d_La_law_1166 : decode code 1166 = .ok (.aload_n 0, 1) := by decide +kernel
theorem d_La_law_1167 : decode code 1167 = .ok (.iload 4, 2) := by decide +kernel
theorem d_La_law_1169 : decode code 1169 = .ok (.iconst 2, 1) := by decide +kernel
theorem d_La_law_1170 : decode code 1170 = .ok (.iadd, 1) := by decide +kernel
theorem d_La_law_1171 : decode code 1171 = .ok (.iaload, 1) := by decide +kernel
theorem d_La_law_1172 : decode code 1172 = .ok (.invokevirtual 142, 3) := by decide +kernel
theorem d_La_law_1175 : decode code 1175 = .ok (.istore 6, 2) := by decide +kernel
theorem d_La_law_1177 : decode code 1177 = .ok (.aload_n 2, 1) := by decide +kernel
theorem d_La_law_1178 : decode code 1178 = .ok (.invokevirtual 84, 3) := by decide +kernel
theorem d_La_law_1181 : decode code 1181 = .ok (.iload 5, 2) := by decide +kernel
theorem d_La_law_1183 : decode code 1183 = .ok (.if_icmp .eq 5, 3) := by decide +kernel
theorem d_La_law_1186 : decode code 1186 = .ok (.iconst 0, 1) := by decide +kernel
theorem d_La_law_1187 : decode code 1187 = .ok (.ireturn, 1) := by decide +kernel
theorem d_La_law_1188 : decode code 1188 = .ok (.iload 5, 2) := by decide +kernel
theorem d_La_law_1190 : decode code 1190 = .ok (.ifCond .ne 22, 3) := by decide +kernel
theorem d_La_law_1193 : decode code 1193 = .ok (.aload_n 3, 1) := by decide +kernel
theorem d_La_law_1194 : decode code 1194 = .ok (.iconst 0, 1) := by decide +kernel
theorem d_La_law_1195 : decode code 1195 = .ok (.laload, 1) := by decide +kernel
theorem d_La_law_1196 : decode code 1196 = .ok (.iload 6, 2) := by decide +kernel
theorem d_La_law_1198 : decode code 1198 = .ok (.ifCond .eq 7, 3) := by decide +kernel
theorem d_La_law_1201 : decode code 1201 = .ok (.lconst 1, 1) := by decide +kernel
theorem d_La_law_1202 : decode code 1202 = .ok (.goto 4, 3) := by decide +kernel
theorem d_La_law_1205 : decode code 1205 = .ok (.lconst 0, 1) := by decide +kernel
theorem d_La_law_1206 : decode code 1206 = .ok (.lcmp, 1) := by decide +kernel
theorem d_La_law_1207 : decode code 1207 = .ok (.ifCond .eq 5, 3) := by decide +kernel
theorem d_La_law_1210 : decode code 1210 = .ok (.iconst 0, 1) := by decide +kernel
theorem d_La_law_1211 : decode code 1211 = .ok (.ireturn, 1) := by decide +kernel
theorem d_La_law_1212 : decode code 1212 = .ok (.goto 3, 3) := by decide +kernel
theorem d_La_law_1215 : decode code 1215 = .ok (.iinc 4 5, 3) := by decide +kernel
theorem d_La_law_1218 : decode code 1218 = .ok (.goto (-1195), 3) := by decide +kernel
theorem d_La_law_1221 : decode code 1221 = .ok (.iconst 1, 1) := by decide +kernel
theorem d_La_law_1222 : decode code 1222 = .ok (.ireturn, 1) := by decide +kernel
